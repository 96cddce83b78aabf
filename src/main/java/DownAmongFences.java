/** A balloon that is to come down among fences: what ../shared/DOC.md promises, in one object. */
public final class DownAmongFences {
  private static final int NOBODY = -1;
  private static final int OTHER = -2;
  private static final int STATE = -3;
  private static final int BELOW = -4;
  private static final int ROOM = -6;
  private static final int NONE = -9;

  private static final int REFUSED_INT = 1000000000;
  private static final long REFUSED_LONG = 4000000000000000000L;

  private static final int NOTHING = 0;
  private static final int FIRE = 1;
  private static final int PULL = 2;

  private static final int LAYERS = 8;
  private static final int LAYER_HEIGHT = 5;
  private static final int SIDE_MOST = 9;
  private static final int AHEAD_MOST = 9;
  private static final int HEIGHT_MOST = 39;
  private static final int PLACE_MOST = 999;
  private static final int HEAT_MOST = 60;
  private static final int GAS_MOST = 60;
  private static final int PEOPLE_MOST = 6;
  private static final int LAG_MOST = 5;
  private static final int STEP_MOST = 999;
  private static final int PACE_MOST = 20;

  private static final int CORN = 1;
  private static final int WIRED = 2;
  private static final int BULL = 3;
  private static final int SHORT = 4;
  private static final int LAST = 5;
  private static final int FIELDS = 8;
  private static final int SIZE_MOST = 30;
  private static final int OUTSIDE = 40;

  private static final int PLACES = 8;
  private static final int MINUTES_MOST = 99;
  private static final int FAR = 1000000;

  private static final int HOLD_MOST = 30;
  private static final int PULL_MOST = 5;
  private static final int LETTERS = 96;
  private static final int ROW_LENGTH = 12;
  private static final int TAKEN_BACK = 8;

  /** All that is told and flown; the LAND that is being told and THE IMAGE are each one of their own. */
  private final World now = new World();
  private final World told = new World();
  private final World picture = new World();
  private boolean pictured;
  private final Past past = new Past();
  private final Reader reader = new Reader();
  private final Row numbers = new Row(ROW_LENGTH);
  private final int[] refusals = new int[7];
  private final Mind mind = new Mind();
  private final Ways ways = new Ways();

  public DownAmongFences() {
  }

  // ---- Letters, air, fields, flight ----

  public int feed(int letter) {
    if (letter < 0) {
      return refuse(BELOW);
    }
    if (letter > 255 || reader.letters.isFull()) {
      return refuse(ROOM);
    }
    return reader.letters.add(letter);
  }

  public int land() {
    told.copyFrom(now);
    int misplaced = reader.firstMisplaced();
    int answer = misplaced == NONE ? reader.tell(told) : -1000 - misplaced;
    reader.letters.drop();
    if (answer >= 0) {
      now.copyFrom(told);
      past.forget();
    }
    return answer;
  }

  public int layer(int layer, int what) {
    if (!isLayer(layer)) {
      return REFUSED_INT - refuse(NOBODY);
    }
    if (what < 0 || what > 1) {
      return REFUSED_INT - refuse(OTHER);
    }
    return what == 0 ? now.air.sideOf(layer) : now.air.aheadOf(layer);
  }

  public int wind(int layer, int side, int ahead) {
    if (!isLayer(layer)) {
      return refuse(NOBODY);
    }
    if (side < -SIDE_MOST || ahead < 0) {
      return refuse(BELOW);
    }
    if (side > SIDE_MOST || ahead > AHEAD_MOST) {
      return refuse(ROOM);
    }
    int was = 100 * (now.air.sideOf(layer) + SIDE_MOST) + now.air.aheadOf(layer);
    now.air.blow(layer, side, ahead);
    past.forget();
    return was;
  }

  public int field(int field, int what) {
    if (!isField(field)) {
      return refuse(NOBODY);
    }
    if (what < 0 || what > 4) {
      return refuse(OTHER);
    }
    return now.fields.tellOf(field, what);
  }

  public int cost(int field, int p) {
    if (!isField(field)) {
      return refuse(NOBODY);
    }
    if (p < 0) {
      return refuse(BELOW);
    }
    if (p > PACE_MOST) {
      return refuse(ROOM);
    }
    return now.fields.costOf(field, p, now.air.dragOf(p, now.flight.people));
  }

  public int drag(int p) {
    if (p < 0) {
      return refuse(BELOW);
    }
    if (p > PACE_MOST) {
      return refuse(ROOM);
    }
    return now.air.dragOf(p, now.flight.people);
  }

  public int set(int what, int v) {
    if (what < 0 || what > 4) {
      return refuse(OTHER);
    }
    if (v < Flight.leastOf(what)) {
      return refuse(BELOW);
    }
    if (v > Flight.mostOf(what)) {
      return refuse(ROOM);
    }
    int was = now.flight.valueOf(what);
    now.flight.change(what, v);
    past.forget();
    return was;
  }

  public int rising() {
    return now.flight.climb();
  }

  public int go(int act) {
    if (act < NOTHING || act > PULL) {
      return refuse(OTHER);
    }
    if (act == FIRE && now.flight.gas <= 0) {
      return refuse(STATE);
    }
    if (now.flight.step >= STEP_MOST) {
      return refuse(ROOM);
    }
    past.add(now.flight);
    now.flight.fly(act, now.air);
    return now.flight.height;
  }

  public int back() {
    if (past.length == 0) {
      return refuse(STATE);
    }
    past.takeBack(now.flight);
    return now.flight.step;
  }

  // ---- In mind: plans and fields ----

  public int plan(int k, int p, int what) {
    int no = planRefusal(k, p, what, 5);
    if (no != 0) {
      return refuse(no);
    }
    mind.begin(now);
    if (!mind.follow(k, p)) {
      return NONE;
    }
    switch (what) {
      case 0:
        return mind.flown.x;
      case 1:
        return mind.flown.y;
      case 2:
        return mind.flown.pace;
      case 3:
        return mind.stepsFlown();
      case 4:
        return mind.fieldThere();
      default:
        return mind.costThere();
    }
  }

  public int had(int field, int what) {
    if (!isField(field)) {
      return refuse(NOBODY);
    }
    if (what < 0 || what > 2) {
      return refuse(OTHER);
    }
    mind.begin(now);
    mind.seekPlansInto(field);
    if (what == 0) {
      return mind.plansFound;
    }
    return what == 1 ? mind.firstFound : mind.softestFound;
  }

  public int best(int what) {
    if (what < 0 || what > 1) {
      return refuse(OTHER);
    }
    mind.begin(now);
    mind.seekCheapest();
    return what == 0 ? mind.cheapestPlan : mind.cheapestCost;
  }

  public int left() {
    mind.begin(now);
    return mind.fieldsWithin();
  }

  public int keep(int field) {
    if (!isField(field)) {
      return refuse(NOBODY);
    }
    mind.begin(now);
    for (int gas = 0; gas <= GAS_MOST; gas++) {
      mind.takeGas(gas);
      if (mind.somePlanLeadsInto(field)) {
        return gas;
      }
      if (mind.hasGasOver()) {
        return NONE;
      }
    }
    return NONE;
  }

  public int goingOn(int n) {
    if (n < 0) {
      return REFUSED_INT - refuse(BELOW);
    }
    if (n > 20) {
      return REFUSED_INT - refuse(ROOM);
    }
    mind.begin(now);
    mind.seekCheapest();
    int here = mind.cheapestCost;
    mind.holdFirst(n);
    mind.seekCheapest();
    int later = mind.cheapestCost;
    return here == NONE || later == NONE ? 1000 : later - here;
  }

  public int blown(int what) {
    if (what < 0 || what > 2) {
      return refuse(OTHER);
    }
    return now.air.layerFarthest(what);
  }

  public int two(int side, int ahead, int what) {
    if (side < -99 || ahead < 0) {
      return refuse(BELOW);
    }
    if (side > 99 || ahead > 99) {
      return refuse(ROOM);
    }
    if (what < 0 || what > 1) {
      return refuse(OTHER);
    }
    int steps = now.air.fewestSteps(side, ahead);
    return what == 0 || steps == NONE ? steps : now.air.layersFor(steps, side, ahead);
  }

  public int swing(int what) {
    if (what < 0 || what > 2) {
      return refuse(OTHER);
    }
    mind.begin(now);
    mind.answerEach(1);
    if (what == 2) {
      return mind.swingGrows() ? 1 : 0;
    }
    return what == 0 ? mind.swingAtFirst : mind.swingLater;
  }

  public int calm() {
    mind.begin(now);
    for (int g = 1; g <= 9; g++) {
      mind.answerEach(g);
      if (!mind.swingGrows()) {
        return g;
      }
    }
    return NONE;
  }

  public int out() {
    return now.flight.height > 0 ? NONE : now.flight.peopleWhoCanLeave();
  }

  // ---- Roads and the car ----

  public int road(int one, int other, int v) {
    if (!areTwoPlaces(one, other)) {
      return refuse(NOBODY);
    }
    if (v < 0) {
      return refuse(BELOW);
    }
    if (v > MINUTES_MOST) {
      return refuse(ROOM);
    }
    int was = now.roads.between(one, other);
    now.roads.lay(one, other, v);
    past.forget();
    return was;
  }

  public int car(int place) {
    if (!isPlace(place)) {
      return refuse(NOBODY);
    }
    int was = now.roads.carPlace;
    now.roads.carPlace = place;
    past.forget();
    return was;
  }

  public int drive(int place) {
    if (!isPlace(place)) {
      return refuse(NOBODY);
    }
    ways.measure(now.roads);
    return ways.minutesOrNone(now.roads.carPlace, place);
  }

  public int waitAt() {
    if (numbers.length != PLACES) {
      return refuse(STATE);
    }
    ways.measure(now.roads);
    return ways.placeToWait(numbers);
  }

  public long meanWait(int part) {
    if (numbers.length != PLACES) {
      return REFUSED_LONG - refuse(STATE);
    }
    if (part < 0 || part > 1) {
      return REFUSED_LONG - refuse(OTHER);
    }
    ways.measure(now.roads);
    int above = ways.waitFrom(ways.placeToWait(numbers), numbers);
    int below = numbers.sum();
    int shared = below == 0 ? 0 : sharedMeasure(above, below);
    if (shared <= 0) {
      return part;
    }
    return part == 0 ? above / shared : below / shared;
  }

  public int turned(int one, int other) {
    if (!areTwoPlaces(one, other)) {
      return refuse(NOBODY);
    }
    if (now.roads.between(one, other) == 0) {
      return NONE;
    }
    ways.measure(now.roads);
    int before = ways.minutes(one, other);
    ways.measureWithout(now.roads, one, other);
    int then = ways.minutes(one, other);
    return then >= FAR ? NONE : then - before;
  }

  // ---- The row ----

  public int track(int what) {
    if (what < 0 || what > 1) {
      return refuse(OTHER);
    }
    if (numbers.length % 2 != 0) {
      return refuse(STATE);
    }
    return what == 0 ? now.air.layersThatFit(numbers) : now.air.firstPairWithoutLayer(numbers);
  }

  public int row(int v) {
    if (v < 0) {
      return refuse(BELOW);
    }
    if (v > 99 || numbers.isFull()) {
      return refuse(ROOM);
    }
    return numbers.add(v);
  }

  public int judge() {
    mind.begin(now);
    int wrong = mind.firstHeightUnlike(numbers);
    numbers.drop();
    return wrong;
  }

  public int clear() {
    int had = numbers.length;
    numbers.drop();
    return had;
  }

  public int lots(int n, int z, int what) {
    if (n < 1) {
      return refuse(BELOW);
    }
    if (n > 20) {
      return refuse(ROOM);
    }
    if (what < 0 || what > 1) {
      return refuse(OTHER);
    }
    mind.begin(now);
    mind.flyByLot(n, z);
    return what == 0 ? mind.lotsInFields : mind.lotsCost;
  }

  // ---- Crew, lag, wind and more in mind ----

  public int crew(int what) {
    if (what < 0 || what > 1) {
      return refuse(OTHER);
    }
    int people = NONE;
    int least = NONE;
    mind.begin(now);
    for (int q = 1; q <= PEOPLE_MOST; q++) {
      mind.takePeople(q);
      mind.seekCheapest();
      if (mind.cheapestCost != NONE && (people == NONE || mind.cheapestCost < least)) {
        people = q;
        least = mind.cheapestCost;
      }
    }
    return what == 0 ? people : least;
  }

  public int whichLag() {
    int lags = 0;
    for (int lag = 0; lag <= LAG_MOST; lag++) {
      mind.begin(now);
      mind.takeLag(lag);
      if (mind.firstHeightUnlike(numbers) == NONE) {
        lags |= 1 << lag;
      }
    }
    return lags;
  }

  public int windFor(int field, int k, int p, int what) {
    if (!isField(field)) {
      return refuse(NOBODY);
    }
    int no = planRefusal(k, p, what, 1);
    if (no != 0) {
      return refuse(no);
    }
    int sides = 0;
    int least = NONE;
    mind.begin(now);
    for (int side = -SIDE_MOST; side <= SIDE_MOST; side++) {
      mind.takeSide(side);
      if (mind.leadsInto(field, k, p)) {
        least = sides == 0 ? side + SIDE_MOST : least;
        sides++;
      }
    }
    return what == 0 ? sides : least;
  }

  public int span(int field, int p, int what) {
    if (!isField(field)) {
      return refuse(NOBODY);
    }
    int no = planRefusal(0, p, what, 1);
    if (no != 0) {
      return refuse(no);
    }
    int first = NONE;
    int last = NONE;
    mind.begin(now);
    for (int k = 0; k <= HOLD_MOST; k++) {
      if (mind.leadsInto(field, k, p)) {
        first = first == NONE ? k : first;
        last = k;
      }
    }
    return what == 0 ? first : last;
  }

  public int flown(int what) {
    if (what < 0 || what > 4) {
      return refuse(OTHER);
    }
    mind.begin(now);
    mind.flyActs(numbers);
    switch (what) {
      case 0:
        return mind.flown.height;
      case 1:
        return mind.flown.x;
      case 2:
        return mind.flown.y;
      case 3:
        return mind.flown.heat;
      default:
        return mind.flown.gas;
    }
  }

  public int ceiling(int what) {
    if (what < 0 || what > 1) {
      return refuse(OTHER);
    }
    mind.begin(now);
    mind.climbAll();
    return what == 0 ? mind.topHeight : mind.topStep;
  }

  public int game(int what) {
    if (what < 0 || what > 2) {
      return refuse(OTHER);
    }
    mind.begin(now);
    mind.playGame();
    if (what == 2) {
      return mind.surestLoss();
    }
    int pair = mind.steadyPair();
    return what == 0 || pair == NONE ? pair : mind.lossBy(pair / 10, pair % 10);
  }

  public int another(int k, int p, int q) {
    if (k < 0 || p < 0 || q < 1) {
      return refuse(BELOW);
    }
    if (k > HOLD_MOST || p > PULL_MOST || q > PEOPLE_MOST) {
      return refuse(ROOM);
    }
    mind.begin(now);
    if (!mind.follow(k, p)) {
      return NONE;
    }
    int x = mind.flown.x;
    int y = mind.flown.y;
    mind.takePeople(q);
    if (!mind.follow(k, p)) {
      return NONE;
    }
    return Math.abs(mind.flown.x - x) + Math.abs(mind.flown.y - y);
  }

  public int chase(int k, int p, int what) {
    int no = planRefusal(k, p, what, 1);
    if (no != 0) {
      return refuse(no);
    }
    mind.begin(now);
    if (!mind.follow(k, p)) {
      return NONE;
    }
    ways.measure(now.roads);
    int minutes = ways.minutesOrNone(now.roads.carPlace, Roads.nearestTo(mind.flown.x));
    if (what == 0 || minutes == NONE) {
      return minutes;
    }
    return minutes <= mind.stepsFlown() / 6 ? 1 : 0;
  }

  public int tour(int places, int what) {
    if (places < 0) {
      return refuse(BELOW);
    }
    if (places > 255) {
      return refuse(ROOM);
    }
    if (what < 0 || what > 1) {
      return refuse(OTHER);
    }
    int from = now.roads.carPlace;
    int others = places & ~(1 << from);
    ways.measure(now.roads);
    ways.seekTours(others);
    return what == 0 ? ways.tourMinutes(from, others) : ways.tourFirst(from, others);
  }

  public int twoCars(int other) {
    if (!isPlace(other)) {
      return refuse(NOBODY);
    }
    ways.measure(now.roads);
    int sooner = 0;
    for (int place = 0; place < PLACES; place++) {
      if (ways.minutes(other, place) < ways.minutes(now.roads.carPlace, place)) {
        sooner |= 1 << place;
      }
    }
    return sooner;
  }

  // ---- The image, counts ----

  public int image() {
    picture.copyFrom(now);
    pictured = true;
    return now.flight.step;
  }

  public int restore() {
    if (!pictured) {
      return refuse(STATE);
    }
    now.copyFrom(picture);
    past.forget();
    return now.flight.step;
  }

  public int count(int what) {
    switch (what) {
      case 0:
        return now.fields.known;
      case 1:
        return now.flight.height;
      case 2:
        return now.flight.x;
      case 3:
        return now.flight.y;
      case 4:
        return now.flight.heat;
      case 5:
        return now.flight.gas;
      case 6:
        return now.flight.people;
      case 7:
        return now.flight.lag;
      case 8:
        return now.flight.step;
      case 9:
        return reader.letters.length;
      case 10:
        return numbers.length;
      case 17:
        return now.roads.carPlace;
      case 18:
        return past.length;
      default:
        return what >= 11 && what <= 16 ? refusals[what - 10] : NONE;
    }
  }

  // ---- Refusals ----

  private int refuse(int number) {
    int kind = -number;
    if (kind > 0 && kind < refusals.length) {
      refusals[kind]++;
    }
    return number;
  }

  /** 0 if a PLAN (k, p) is one and what is among 0 .. most. */
  private static int planRefusal(int k, int p, int what, int most) {
    if (k < 0 || p < 0) {
      return BELOW;
    }
    if (k > HOLD_MOST || p > PULL_MOST) {
      return ROOM;
    }
    return what < 0 || what > most ? OTHER : 0;
  }

  private boolean isField(int field) {
    return field >= 0 && field < now.fields.known;
  }

  private static boolean isLayer(int layer) {
    return layer >= 0 && layer < LAYERS;
  }

  private static boolean isPlace(int place) {
    return place >= 0 && place < PLACES;
  }

  private static boolean areTwoPlaces(int one, int other) {
    return isPlace(one) && isPlace(other) && one != other;
  }

  // ---- Numbers ----

  private static int between(int least, int v, int most) {
    return v < least ? least : v > most ? most : v;
  }

  /** The greatest number that divides both, of which one at least is above 0. */
  private static int sharedMeasure(int a, int b) {
    int one = a;
    int other = b;
    for (int i = 0; i < 100 && other > 0; i++) {
      int rest = one % other;
      one = other;
      other = rest;
    }
    return one;
  }

  // ---- The classes inside ----

  /** What THE IMAGE holds and a LAND changes as a whole. */
  private static final class World {
    final Air air = new Air();
    final Fields fields = new Fields();
    final Roads roads = new Roads();
    final Flight flight = new Flight();

    void copyFrom(World other) {
      air.copyFrom(other.air);
      fields.copyFrom(other.fields);
      roads.copyFrom(other.roads);
      flight.copyFrom(other.flight);
    }
  }

  /** The wind of all LAYERS. */
  private static final class Air {
    private final int[] sides = new int[LAYERS];
    private final int[] aheads = new int[LAYERS];

    void copyFrom(Air other) {
      for (int layer = 0; layer < LAYERS; layer++) {
        sides[layer] = other.sides[layer];
        aheads[layer] = other.aheads[layer];
      }
    }

    int sideOf(int layer) {
      return isLayer(layer) ? sides[layer] : 0;
    }

    int aheadOf(int layer) {
      return isLayer(layer) ? aheads[layer] : 0;
    }

    void blow(int layer, int side, int ahead) {
      if (isLayer(layer)) {
        sides[layer] = side;
        aheads[layer] = ahead;
      }
    }

    void turnAbout() {
      for (int layer = 0; layer < LAYERS; layer++) {
        sides[layer] = -sides[layer];
      }
    }

    int dragOf(int pace, int people) {
      return Math.max(0, 4 * pace + 3 * (Math.abs(sides[0]) + aheads[0]) - 2 * people);
    }

    /** The LAYER that goes most to the right (0), left (1), ahead (2). */
    int layerFarthest(int way) {
      int most = 0;
      for (int layer = 1; layer < LAYERS; layer++) {
        most = speedTo(way, layer) > speedTo(way, most) ? layer : most;
      }
      return most;
    }

    private int speedTo(int way, int layer) {
      if (way == 2) {
        return aheadOf(layer);
      }
      return way == 0 ? sideOf(layer) : -sideOf(layer);
    }

    int fewestSteps(int side, int ahead) {
      for (int steps = 0; steps <= 40; steps++) {
        if (layersFor(steps, side, ahead) != NONE) {
          return steps;
        }
      }
      return NONE;
    }

    /** The least pair of LAYERS, and STEPS in its first, by which so many STEPS go just so far. */
    int layersFor(int steps, int side, int ahead) {
      for (int first = 0; first < LAYERS; first++) {
        for (int other = 0; other < LAYERS; other++) {
          for (int in = 0; in <= steps; in++) {
            int rest = steps - in;
            if (in * sides[first] + rest * sides[other] == side
                && in * aheads[first] + rest * aheads[other] == ahead) {
              return 10000 * first + 1000 * other + in;
            }
          }
        }
      }
      return NONE;
    }

    int layersThatFit(Row pairs) {
      int fitting = 0;
      for (int i = 0; i + 1 < pairs.length; i += 2) {
        fitting |= layersOfPair(pairs, i);
      }
      return fitting;
    }

    int firstPairWithoutLayer(Row pairs) {
      for (int i = 0; i + 1 < pairs.length; i += 2) {
        if (layersOfPair(pairs, i) == 0) {
          return i / 2;
        }
      }
      return NONE;
    }

    private int layersOfPair(Row pairs, int i) {
      int fitting = 0;
      for (int layer = 0; layer < LAYERS; layer++) {
        if (sides[layer] == pairs.at(i) - 50 && aheads[layer] == pairs.at(i + 1)) {
          fitting |= 1 << layer;
        }
      }
      return fitting;
    }
  }

  /** The FIELDS as they come. */
  private static final class Fields {
    int known;
    private final int[] kinds = new int[FIELDS];
    private final int[] figures = new int[FIELDS];
    private final int[] lefts = new int[FIELDS];
    private final int[] nears = new int[FIELDS];
    private final int[] sizes = new int[FIELDS];

    void copyFrom(Fields other) {
      known = other.known;
      for (int i = 0; i < FIELDS; i++) {
        kinds[i] = other.kinds[i];
        figures[i] = other.figures[i];
        lefts[i] = other.lefts[i];
        nears[i] = other.nears[i];
        sizes[i] = other.sizes[i];
      }
    }

    boolean isFull() {
      return known >= FIELDS;
    }

    void add(int kind, int figure, int x, int y, int size) {
      if (known >= 0 && known < FIELDS) {
        kinds[known] = kind;
        figures[known] = figure;
        lefts[known] = x;
        nears[known] = y;
        sizes[known] = size;
        known++;
      }
    }

    int tellOf(int field, int what) {
      if (field < 0 || field >= FIELDS) {
        return NONE;
      }
      switch (what) {
        case 0:
          return kinds[field];
        case 1:
          return figures[field];
        case 2:
          return lefts[field];
        case 3:
          return nears[field];
        default:
          return sizes[field];
      }
    }

    int fieldAt(int x, int y) {
      for (int i = 0; i < known && i < FIELDS; i++) {
        if (x >= lefts[i] && x < lefts[i] + sizes[i] && y >= nears[i] && y < nears[i] + sizes[i]) {
          return i;
        }
      }
      return NONE;
    }

    int costOf(int field, int pace, int drag) {
      if (field < 0 || field >= known || field >= FIELDS) {
        return OUTSIDE;
      }
      int plain = pace > 3 ? 2 * pace : pace;
      int figure = figures[field];
      int wired = plain + 3 * figure;
      int corn = plain + figure + 5;
      switch (kinds[field]) {
        case CORN:
          return corn;
        case WIRED:
          return wired;
        case BULL:
          return plain + figure;
        case SHORT:
          return drag > 10 * sizes[field] ? wired + 20 : wired;
        case LAST:
          return corn / 2;
        default:
          return plain;
      }
    }
  }

  /** The ROADS between PLACES and where THE CAR is. */
  private static final class Roads {
    int carPlace;
    private final int[] lengths = new int[PLACES * PLACES];

    void copyFrom(Roads other) {
      carPlace = other.carPlace;
      for (int i = 0; i < PLACES * PLACES; i++) {
        lengths[i] = other.lengths[i];
      }
    }

    int between(int one, int other) {
      return isPlace(one) && isPlace(other) ? lengths[one * PLACES + other] : 0;
    }

    void lay(int one, int other, int v) {
      if (isPlace(one) && isPlace(other)) {
        lengths[one * PLACES + other] = v;
        lengths[other * PLACES + one] = v;
      }
    }

    static int nearestTo(int x) {
      int nearest = 0;
      for (int place = 1; place < PLACES; place++) {
        nearest = Math.abs(x - 100 * place) < Math.abs(x - 100 * nearest) ? place : nearest;
      }
      return nearest;
    }
  }

  /** The balloon itself. */
  private static final class Flight {
    int height;
    int x = 100;
    int y;
    int heat = 20;
    int gas = 30;
    int people = 4;
    int lag = 2;
    int step;
    /** PACE of the LANDING in the latest STEP, 0 if there was none in it. */
    int pace;
    /** ACTS whose WORK is under way, two bits each, the one due next in the lowest; so a copy needs no array. */
    private int underWay;

    void copyFrom(Flight other) {
      height = other.height;
      x = other.x;
      y = other.y;
      heat = other.heat;
      gas = other.gas;
      people = other.people;
      lag = other.lag;
      step = other.step;
      pace = other.pace;
      underWay = other.underWay;
    }

    static int leastOf(int what) {
      return what == 3 ? 1 : 0;
    }

    static int mostOf(int what) {
      switch (what) {
        case 0:
          return HEIGHT_MOST;
        case 1:
          return HEAT_MOST;
        case 2:
          return GAS_MOST;
        case 3:
          return PEOPLE_MOST;
        default:
          return LAG_MOST;
      }
    }

    int valueOf(int what) {
      switch (what) {
        case 0:
          return height;
        case 1:
          return heat;
        case 2:
          return gas;
        case 3:
          return people;
        default:
          return lag;
      }
    }

    void change(int what, int v) {
      switch (what) {
        case 0:
          height = v;
          break;
        case 1:
          heat = v;
          break;
        case 2:
          gas = v;
          break;
        case 3:
          people = v;
          break;
        default:
          changeLag(v);
          break;
      }
    }

    void changeLag(int v) {
      if (v != lag) {
        loseWork();
      }
      lag = v;
    }

    void loseWork() {
      underWay = 0;
    }

    int balance() {
      return 12 + 2 * people;
    }

    /** RISING. */
    int climb() {
      return (heat - balance()) / 4;
    }

    int peopleWhoCanLeave() {
      int gone = 0;
      while (gone < people && (heat - balance() + 2 * (gone + 1)) / 4 <= 0) {
        gone++;
      }
      return gone;
    }

    /** One STEP; the caller has looked that there is GAS for FIRE. */
    void fly(int act, Air air) {
      if (act == FIRE) {
        gas--;
      }
      underWay |= act << 2 * lag;
      int due = workOf(underWay & 3);
      underWay >>= 2;
      heat = between(0, heat - 1 + due, HEAT_MOST);
      int from = height;
      int climb = climb();
      height = between(0, height + climb, HEIGHT_MOST);
      pace = from > 0 && height == 0 ? -climb : 0;
      if (height > 0) {
        int layer = height / LAYER_HEIGHT;
        x = between(0, x + air.sideOf(layer), PLACE_MOST);
        y = between(0, y + air.aheadOf(layer), PLACE_MOST);
      }
      step++;
    }

    private static int workOf(int act) {
      return act == FIRE ? 4 : act == PULL ? -5 : 0;
    }

    int able(int act) {
      return act == FIRE && gas <= 0 ? NOTHING : act;
    }

    /** The ACT of one who HOLDS. */
    int holdAct() {
      int coming = 0;
      for (int i = 0; i < lag; i++) {
        coming += workOf(underWay >> 2 * i & 3);
      }
      return able(heat + coming < balance() ? FIRE : NOTHING);
    }

    /** The ACT of one who answers what he feels. */
    int feltAct() {
      int climb = climb();
      return climb < 0 ? able(FIRE) : climb > 0 ? PULL : NOTHING;
    }
  }

  /** The STEPS gone that can be TAKEN BACK, each as the flight ahead of it. */
  private static final class Past {
    int length;
    private int latest;
    private final Flight[] flights = new Flight[TAKEN_BACK];

    Past() {
      for (int i = 0; i < TAKEN_BACK; i++) {
        flights[i] = new Flight();
      }
    }

    void add(Flight flight) {
      latest = (latest + 1) % TAKEN_BACK;
      Flight slot = slotOfLatest();
      if (slot != null) {
        slot.copyFrom(flight);
      }
      length = Math.min(length + 1, TAKEN_BACK);
    }

    void takeBack(Flight flight) {
      Flight slot = slotOfLatest();
      if (slot != null) {
        flight.copyFrom(slot);
      }
      latest = (latest + TAKEN_BACK - 1) % TAKEN_BACK;
      length = Math.max(length - 1, 0);
    }

    void forget() {
      length = 0;
    }

    private Flight slotOfLatest() {
      return latest >= 0 && latest < TAKEN_BACK ? flights[latest] : null;
    }
  }

  /** What is told one by one: numbers of the ROW, or letters. */
  private static final class Row {
    private static final int END = -1;

    int length;
    private final int[] told;

    Row(int room) {
      told = new int[room < 0 ? 0 : room];
    }

    boolean isFull() {
      return length >= told.length;
    }

    int add(int v) {
      if (length >= 0 && length < told.length) {
        told[length] = v;
        length++;
      }
      return length;
    }

    int at(int i) {
      return i >= 0 && i < length && i < told.length ? told[i] : END;
    }

    int sum() {
      int all = 0;
      for (int i = 0; i < length; i++) {
        all += at(i);
      }
      return all;
    }

    void drop() {
      length = 0;
    }
  }

  /** What is in mind, from now: trials on copies of all that a PLAN needs. */
  private static final class Mind {
    private static final int PLAN_STEPS = 60;
    private static final int SWING_STEPS = 40;
    private static final int LOT_STEPS = 40;
    private static final int CLIMB_STEPS = 60;
    private static final int CHOICES = 3;

    private final Air air = new Air();
    private final Fields fields = new Fields();
    private final Flight start = new Flight();
    /** The start behind heldFor STEPS of HOLD: PLANS of growing k share it. */
    private final Flight held = new Flight();
    private int heldFor;
    final Flight flown = new Flight();
    int plansFound;
    int firstFound;
    int softestFound;
    int cheapestPlan;
    int cheapestCost;
    int swingAtFirst;
    int swingLater;
    int lotsInFields;
    int lotsCost;
    int topHeight;
    int topStep;
    private final int[] losses = new int[CHOICES * 2];

    void begin(World world) {
      air.copyFrom(world.air);
      fields.copyFrom(world.fields);
      start.copyFrom(world.flight);
      rewind();
    }

    private void rewind() {
      start.pace = 0;
      held.copyFrom(start);
      heldFor = 0;
    }

    void takePeople(int q) {
      start.people = q;
      rewind();
    }

    void takeGas(int gas) {
      start.gas = gas;
      rewind();
    }

    void takeLag(int lag) {
      start.changeLag(lag);
      rewind();
    }

    /** Another SIDE of the LAYER it is in now. */
    void takeSide(int side) {
      int layer = start.height / LAYER_HEIGHT;
      air.blow(layer, side, air.aheadOf(layer));
      rewind();
    }

    /** Puts now behind n STEPS of HOLD; these are STEPS like others, so from DOWN it may rise. */
    void holdFirst(int n) {
      for (int i = 0; i < n; i++) {
        start.fly(start.holdAct(), air);
      }
      rewind();
    }

    /** Follows PLAN (k, p): whether it comes DOWN; flown is where and how. */
    boolean follow(int k, int p) {
      holdTo(k);
      flown.copyFrom(held);
      for (int i = 0; i < p && flown.height > 0; i++) {
        flown.fly(PULL, air);
      }
      for (int i = k + p; i < PLAN_STEPS && flown.height > 0; i++) {
        flown.fly(NOTHING, air);
      }
      return flown.height == 0;
    }

    private void holdTo(int k) {
      if (k < heldFor) {
        rewind();
      }
      for (; heldFor < k; heldFor++) {
        if (held.height > 0) {
          held.fly(held.holdAct(), air);
        }
      }
    }

    int stepsFlown() {
      return flown.step - start.step;
    }

    int fieldThere() {
      return fields.fieldAt(flown.x, flown.y);
    }

    int costThere() {
      return fields.costOf(fieldThere(), flown.pace, air.dragOf(flown.pace, flown.people));
    }

    boolean leadsInto(int field, int k, int p) {
      return follow(k, p) && fieldThere() == field;
    }

    void seekPlansInto(int field) {
      plansFound = 0;
      firstFound = NONE;
      softestFound = NONE;
      int softest = 0;
      for (int k = 0; k <= HOLD_MOST; k++) {
        for (int p = 0; p <= PULL_MOST; p++) {
          if (follow(k, p) && fieldThere() == field) {
            firstFound = plansFound == 0 ? 10 * k + p : firstFound;
            if (plansFound == 0 || flown.pace < softest) {
              softest = flown.pace;
              softestFound = 10 * k + p;
            }
            plansFound++;
          }
        }
      }
    }

    void seekCheapest() {
      cheapestPlan = NONE;
      cheapestCost = NONE;
      for (int k = 0; k <= HOLD_MOST; k++) {
        for (int p = 0; p <= PULL_MOST; p++) {
          if (follow(k, p)) {
            int cost = costThere();
            if (cheapestPlan == NONE || cost < cheapestCost) {
              cheapestPlan = 10 * k + p;
              cheapestCost = cost;
            }
          }
        }
      }
    }

    /** The FIELDS (bits) into which some PLAN leads. */
    int fieldsWithin() {
      int within = 0;
      for (int k = 0; k <= HOLD_MOST; k++) {
        for (int p = 0; p <= PULL_MOST; p++) {
          int field = follow(k, p) ? fieldThere() : NONE;
          within |= field >= 0 ? 1 << field : 0;
        }
      }
      return within;
    }

    boolean somePlanLeadsInto(int field) {
      for (int k = 0; k <= HOLD_MOST; k++) {
        for (int p = 0; p <= PULL_MOST; p++) {
          if (follow(k, p) && fieldThere() == field) {
            return true;
          }
        }
      }
      return false;
    }

    /** Whether the longest HOLD, once tried, left GAS over: then every PLAN is the same with more of it. */
    boolean hasGasOver() {
      return heldFor == HOLD_MOST && held.gas > 0;
    }

    /** One answers what he feels in each g-th STEP. */
    void answerEach(int g) {
      swingAtFirst = 0;
      swingLater = 0;
      flown.copyFrom(start);
      int toAnswer = 0;
      for (int i = 0; i < SWING_STEPS; i++) {
        flown.fly(toAnswer == 0 ? flown.feltAct() : NOTHING, air);
        toAnswer = toAnswer + 1 < g ? toAnswer + 1 : 0;
        int away = Math.abs(flown.height - start.height);
        if (i < SWING_STEPS / 2) {
          swingAtFirst = Math.max(swingAtFirst, away);
        } else {
          swingLater = Math.max(swingLater, away);
        }
      }
    }

    boolean swingGrows() {
      return swingLater > swingAtFirst;
    }

    int firstHeightUnlike(Row heights) {
      flown.copyFrom(start);
      for (int i = 0; i < heights.length; i++) {
        flown.fly(flown.holdAct(), air);
        if (flown.height != heights.at(i)) {
          return i;
        }
      }
      return NONE;
    }

    void flyActs(Row acts) {
      flown.copyFrom(start);
      for (int i = 0; i < acts.length; i++) {
        flown.fly(flown.able(acts.at(i) % 3), air);
      }
    }

    void flyByLot(int n, int z) {
      lotsInFields = 0;
      lotsCost = 0;
      int seed = z;
      for (int i = 0; i < n; i++) {
        seed = flyOneByLot(seed);
        boolean down = flown.height == 0;
        lotsCost += down ? costThere() : OUTSIDE;
        lotsInFields += down && fieldThere() != NONE ? 1 : 0;
      }
    }

    /** One flight by lot; the seed behind it. */
    private int flyOneByLot(int z) {
      int seed = z;
      flown.copyFrom(start);
      boolean down = false;
      for (int i = 0; i < LOT_STEPS && !down; i++) {
        seed = seed * 1103515245 + 12345;
        int act = (seed & 0x7fffffff) / 65536 % 3;
        flown.fly(flown.able(act), air);
        down = flown.height == 0;
      }
      return seed;
    }

    /** FIRE is all that is done; being where it is now counts as 0 STEPS. */
    void climbAll() {
      flown.copyFrom(start);
      topHeight = flown.height;
      topStep = 0;
      for (int i = 1; i <= CLIMB_STEPS; i++) {
        flown.fly(flown.able(FIRE), air);
        if (flown.height > topHeight) {
          topHeight = flown.height;
          topStep = i;
        }
      }
    }

    void playGame() {
      for (int turn = 0; turn < 2; turn++) {
        for (int choice = 0; choice < CHOICES; choice++) {
          losses[choice * 2 + turn] = follow(5 * choice, 1) ? costThere() : OUTSIDE;
        }
        air.turnAbout();
        rewind();
      }
    }

    int lossBy(int choice, int turn) {
      return choice >= 0 && choice < CHOICES && turn >= 0 && turn < 2 ? losses[choice * 2 + turn] : NONE;
    }

    int surestLoss() {
      int least = Math.max(lossBy(0, 0), lossBy(0, 1));
      for (int choice = 1; choice < CHOICES; choice++) {
        least = Math.min(least, Math.max(lossBy(choice, 0), lossBy(choice, 1)));
      }
      return least;
    }

    /** The first pair that neither leaves alone. */
    int steadyPair() {
      for (int choice = 0; choice < CHOICES; choice++) {
        for (int turn = 0; turn < 2; turn++) {
          int loss = lossBy(choice, turn);
          if (loss >= lossBy(choice, 1 - turn) && loss <= leastLossIf(turn)) {
            return 10 * choice + turn;
          }
        }
      }
      return NONE;
    }

    private int leastLossIf(int turn) {
      int least = lossBy(0, turn);
      for (int choice = 1; choice < CHOICES; choice++) {
        least = Math.min(least, lossBy(choice, turn));
      }
      return least;
    }
  }

  /** Shortest ways between PLACES. */
  private static final class Ways {
    private static final int SETS = 1 << PLACES;

    private final int[] shortest = new int[PLACES * PLACES];
    /** By a set of PLACES and the PLACE one is at: the fewest MINUTES through all of the set. */
    private final int[] rests = new int[SETS * PLACES];

    void measure(Roads roads) {
      takeRoads(roads);
      joinRoads();
    }

    void measureWithout(Roads roads, int one, int other) {
      takeRoads(roads);
      if (areTwoPlaces(one, other)) {
        shortest[one * PLACES + other] = FAR;
        shortest[other * PLACES + one] = FAR;
      }
      joinRoads();
    }

    private void takeRoads(Roads roads) {
      for (int one = 0; one < PLACES; one++) {
        for (int other = 0; other < PLACES; other++) {
          int length = roads.between(one, other);
          shortest[one * PLACES + other] = one == other ? 0 : length > 0 ? length : FAR;
        }
      }
    }

    private void joinRoads() {
      for (int via = 0; via < PLACES; via++) {
        for (int one = 0; one < PLACES; one++) {
          int to = shortest[one * PLACES + via];
          for (int other = 0; other < PLACES && to < FAR; other++) {
            int joined = to + shortest[via * PLACES + other];
            if (joined < shortest[one * PLACES + other]) {
              shortest[one * PLACES + other] = joined;
            }
          }
        }
      }
    }

    /** MINUTES from one to the other; FAR if there is no way. */
    int minutes(int one, int other) {
      return isPlace(one) && isPlace(other) ? shortest[one * PLACES + other] : FAR;
    }

    int minutesOrNone(int one, int other) {
      int minutes = minutes(one, other);
      return minutes >= FAR ? NONE : minutes;
    }

    /** MINUTES from a PLACE to all, each as often as it weighs. */
    int waitFrom(int place, Row weights) {
      int all = 0;
      for (int other = 0; other < PLACES; other++) {
        int minutes = minutes(place, other);
        all += weights.at(other) * (minutes >= FAR ? MINUTES_MOST : minutes);
      }
      return all;
    }

    int placeToWait(Row weights) {
      int best = 0;
      int least = waitFrom(0, weights);
      for (int place = 1; place < PLACES; place++) {
        int wait = waitFrom(place, weights);
        if (wait < least) {
          best = place;
          least = wait;
        }
      }
      return best;
    }

    /** Fills the rests of all sets within these PLACES; a smaller set is a smaller number, so it comes first. */
    void seekTours(int within) {
      for (int set = 0; set < SETS; set++) {
        for (int at = 0; at < PLACES && (set & ~within) == 0; at++) {
          rests[set * PLACES + at] = set == 0 ? 0 : fewestFrom(at, set);
        }
      }
    }

    private int fewestFrom(int at, int set) {
      int fewest = FAR;
      for (int next = 0; next < PLACES; next++) {
        if ((set >> next & 1) == 1) {
          fewest = Math.min(fewest, throughFirst(at, next, set));
        }
      }
      return fewest;
    }

    /** The fewest MINUTES through all of a set, if next, one of it, is the first. */
    private int throughFirst(int at, int next, int set) {
      return minutes(at, next) + restOf(set & ~(1 << next), next);
    }

    private int restOf(int set, int at) {
      return set >= 0 && set < SETS && isPlace(at) ? rests[set * PLACES + at] : FAR;
    }

    int tourMinutes(int from, int set) {
      int fewest = restOf(set, from);
      return fewest >= FAR ? NONE : fewest;
    }

    int tourFirst(int from, int set) {
      int fewest = restOf(set, from);
      for (int next = 0; next < PLACES && fewest < FAR; next++) {
        if ((set >> next & 1) == 1 && throughFirst(from, next, set) == fewest) {
          return next;
        }
      }
      return NONE;
    }
  }

  /** Reads the letters in which a LAND is told. */
  private static final class Reader {
    final Row letters = new Row(LETTERS);

    private boolean isDigit(int place) {
      return letters.at(place) >= '0' && letters.at(place) <= '9';
    }

    private int number(int place, int digits) {
      int v = 0;
      for (int i = 0; i < digits; i++) {
        v = 10 * v + letters.at(place + i) - '0';
      }
      return v;
    }

    /** The place of a FAULT of kind 1. */
    int firstMisplaced() {
      int start = 0;
      for (int i = 0; i < LETTERS && (start == 0 || start < letters.length); i++) {
        int end = endOf(start);
        if (end < 0) {
          return -1 - end;
        }
        start = end + 1;
      }
      return NONE;
    }

    /** Tells letters of which none is misplaced: how many STATEMENTS, or a FAULT of kind 2, the world half told. */
    int tell(World world) {
      int statements = 0;
      int start = 0;
      while (statements < LETTERS && start < letters.length) {
        int end = endOf(start);
        if (!tellStatement(start, end, world)) {
          return -2000 - start;
        }
        start = end + 1;
        statements++;
      }
      return statements;
    }

    /** Where the ";" of the STATEMENT from start stands; if that is no STATEMENT, -1 less the wrong place. */
    private int endOf(int start) {
      switch (letters.at(start)) {
        case 'w':
          return endOfWind(start);
        case 'f':
          return endOfDigits(start + 1, 10, 10);
        case 'r':
          return endOfDigits(start + 1, 4, 4);
        case 'b':
          return endOfDigits(start + 1, 5, 5);
        case 'h':
          return endOfDigits(start + 1, 2, 2);
        case 'l':
          return endOfDigits(start + 1, 1, 1);
        case 'a':
          return endOfDigits(start + 1, 1, 9);
        default:
          return -1 - start;
      }
    }

    private int endOfWind(int start) {
      if (!isDigit(start + 1)) {
        return -1 - (start + 1);
      }
      int sign = letters.at(start + 2);
      if (sign != '+' && sign != '-') {
        return -1 - (start + 2);
      }
      return endOfDigits(start + 3, 2, 2);
    }

    private int endOfDigits(int from, int least, int most) {
      int place = from;
      while (place < from + most && isDigit(place)) {
        place++;
      }
      return place >= from + least && letters.at(place) == ';' ? place : -1 - place;
    }

    /** Whether the STATEMENT is as it must be; then the world has it. */
    private boolean tellStatement(int start, int end, World world) {
      switch (letters.at(start)) {
        case 'w':
          return tellWind(start, world.air);
        case 'f':
          return tellField(start, world.fields);
        case 'r':
          return tellRoad(start, world.roads);
        case 'b':
          return tellBalloon(start, world.flight);
        case 'h':
          return tellHeight(start, world.flight);
        case 'l':
          return tellLag(start, world.flight);
        default:
          return tellActs(start, end, world);
      }
    }

    private boolean tellWind(int start, Air air) {
      int layer = number(start + 1, 1);
      if (!isLayer(layer)) {
        return false;
      }
      int side = number(start + 3, 1);
      air.blow(layer, letters.at(start + 2) == '-' ? -side : side, number(start + 4, 1));
      return true;
    }

    private boolean tellField(int start, Fields fields) {
      int kind = number(start + 1, 1);
      int size = number(start + 9, 2);
      if (kind > LAST || size < 1 || size > SIZE_MOST || fields.isFull()) {
        return false;
      }
      fields.add(kind, number(start + 2, 1), number(start + 3, 3), number(start + 6, 3), size);
      return true;
    }

    private boolean tellRoad(int start, Roads roads) {
      int one = number(start + 1, 1);
      int other = number(start + 2, 1);
      if (!areTwoPlaces(one, other)) {
        return false;
      }
      roads.lay(one, other, number(start + 3, 2));
      return true;
    }

    private boolean tellBalloon(int start, Flight flight) {
      int heat = number(start + 1, 2);
      int gas = number(start + 3, 2);
      int people = number(start + 5, 1);
      if (heat > HEAT_MOST || gas > GAS_MOST || people < 1 || people > PEOPLE_MOST) {
        return false;
      }
      flight.heat = heat;
      flight.gas = gas;
      flight.people = people;
      return true;
    }

    private boolean tellHeight(int start, Flight flight) {
      int height = number(start + 1, 2);
      if (height > HEIGHT_MOST) {
        return false;
      }
      flight.height = height;
      return true;
    }

    /** A told LAG loses what is under way even if it is the same one. */
    private boolean tellLag(int start, Flight flight) {
      int lag = number(start + 1, 1);
      if (lag > LAG_MOST) {
        return false;
      }
      flight.lag = lag;
      flight.loseWork();
      return true;
    }

    private boolean tellActs(int start, int end, World world) {
      Flight flight = world.flight;
      for (int place = start + 1; place < end; place++) {
        int act = number(place, 1);
        if (act > PULL || flight.able(act) != act || flight.step >= STEP_MOST) {
          return false;
        }
        flight.fly(act, world.air);
      }
      return true;
    }
  }
}
