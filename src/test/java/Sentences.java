import java.io.IOException;
import java.nio.file.Files;
import java.nio.file.Path;
import java.util.ArrayList;
import java.util.BitSet;
import java.util.HashMap;
import java.util.List;
import java.util.Map;
import java.util.regex.Matcher;
import java.util.regex.Pattern;

/** The document's sentences: each test quotes the words that it is a test of, and no words that name an edge go without. */
final class Sentences {
  /** Words by which the document names an edge: too small, too large, empty, full, held, cut, refused and the like. */
  private static final Pattern EDGE = Pattern.compile("-\\d+|\\d \\.\\. \\d|\\b(at most|at least|held|cut|of several|none"
      + "|no|not|too|twice|only|above|below|wrapping|stays?|lost|lacks|also|at once|at first|without|less|least|most"
      + "|fewest|first|greatest|last|softest|latest|older|both|either|same|else|empty|nothing|never|however|refused"
      + "|out of range|more|another)\\b");

  private final Check check;
  private final String document;
  private final BitSet quoted = new BitSet();
  /** Where each section starts; the next one's start is its end. */
  private final Map<String, Integer> starts = new HashMap<>();
  private final List<Integer> ends = new ArrayList<>();
  private String section = "";
  private int from;
  private int to;

  Sentences(Check check, Path file) throws IOException {
    this.check = check;
    document = Files.readString(file).replaceAll("\\s+", " ");
    start("What it is", "An object is used for ");
    start("The face", "## The public face");
    start("I", "==== I. ");
    start("II", "==== II. ");
    start("III", "==== III. ");
    start("THE IMAGE", "THE IMAGE: all ");
    start("Fractions", "Fractions are told ");
    start("REFUSALS", "REFUSALS (the ");
    for (int promise = 1; promise <= 48; promise++) {
      start("Promise " + promise, "## Promise " + promise + ": ");
    }
    ends.add(document.indexOf("## Not promised"));
  }

  private void start(String name, String mark) {
    int place = document.indexOf(mark);
    check.holds("the document has " + name, place >= 0);
    starts.put(name, place);
    ends.add(place);
  }

  /** The words quoted next stand in this section. */
  void in(String name) {
    section = name;
    from = starts.get(name);
    to = document.length();
    for (int end : ends) {
      to = end > from && end < to ? end : to;
    }
  }

  /** A test of these words, which stand in the section as they are here. */
  void says(String words, Runnable test) {
    check.about("");
    int place = document.indexOf(words, from);
    while (place >= 0 && quoted.nextClearBit(place) >= place + words.length()) {
      int next = document.indexOf(words, place + 1);
      if (next < 0 || next + words.length() > to) {
        break;
      }
      place = next;
    }
    boolean stands = place >= 0 && place + words.length() <= to;
    check.holds(section + " says: " + words, stands);
    if (stands) {
      quoted.set(place, place + words.length());
    }
    check.about(section + ": " + words);
    int before = check.made();
    test.run();
    check.holds("is looked at", check.made() > before);
    check.about("");
  }

  /** Whether a place is within the face or within a promise's name and its call as Java writes it. */
  private boolean isCode(int place) {
    boolean face = place >= starts.get("The face") && place < starts.get("I");
    return face || document.lastIndexOf("## Promise", place) > document.lastIndexOf("`: ", place);
  }

  /** Tells each word of an edge that no test has quoted. */
  void allEdgesAreQuoted() {
    Matcher edge = EDGE.matcher(document);
    int last = ends.get(ends.size() - 1);
    for (int at = starts.get("What it is"); edge.find(at) && edge.start() < last; at = edge.end()) {
      int place = edge.start();
      if (!quoted.get(place) && !isCode(place)) {
        check.holds("no test is of .. " + document.substring(Math.max(0, place - 50), Math.min(last, place + 50)) + " ..",
            false);
      }
    }
    check.holds("edges are looked for", last > 0);
  }
}
