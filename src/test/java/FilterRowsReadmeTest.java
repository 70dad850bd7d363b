/** The calls of README.md's example, in its order, answer what stands beside them there. */
public final class FilterRowsReadmeTest {
  public static void main(String[] args) {
    FilterRows rows = new FilterRows(3, 2, 3, 1);
    samples(rows);
    filters(rows);
    encodes(rows);
    readsBack(rows);
    palette(rows);
    Check.end();
  }

  private static void samples(FilterRows rows) {
    Check.same("paint", rows.paint(10, 7), 6);
    Pictures.samplesAre(rows, 10, 17, 24, 31, 38, 45);
    Check.same("put", rows.put(2, 1, 0, 50), 45);
    Check.same("at", rows.at(2, 1, 0), 50);
  }

  private static void filters(FilterRows rows) {
    Check.same("pass", rows.pass(0, 1), 3);
    Check.same("filtered", rows.filtered(0, 1, 1, 2), 12);
    Check.same("worth", rows.worth(0, 1, 2, 5), 68);
  }

  private static void encodes(FilterRows rows) {
    Check.same("encode", rows.encode(5, 0, false), 8);
    Check.same("the first line's kind", rows.byteAt(0), 1);
    Check.same("the second line's kind", rows.byteAt(4), 4);
    Check.same("chosen", rows.chosen(4), 1);
  }

  private static void readsBack(FilterRows rows) {
    Check.refused("clean", IllegalStateException.class, rows::clean);
    Check.same("passOn", rows.passOn(), 8);
    Check.same("decode", rows.decode(false), 2);
    Pictures.samplesAre(rows, 10, 17, 24, 31, 38, 50);
    Check.same("feed", rows.feed(7), 1);
    Check.same("decode of a kind above 4", rows.decode(false), FilterRows.NONE);
    Pictures.samplesAre(rows, 10, 17, 24, 31, 38, 50);
  }

  private static void palette(FilterRows rows) {
    Check.same("red", rows.colour(0xFF0000), 0);
    Check.same("black", rows.colour(0x000000), 1);
    Check.same("dark red", rows.colour(0x800000), 2);
    Check.same("the darkest", rows.order(0), 1);
    Check.same("the nearest to it", rows.order(1), 2);
    Check.same("the last", rows.order(2), 0);
    Check.same("colours", rows.told(7), 3);
    rows.clear();
    Pictures.samplesAre(rows, 0, 0, 0, 0, 0, 0);
    for (int what = 5; what <= 7; what++) {
      Check.same("told(" + what + ") after clear", rows.told(what), 0);
    }
  }
}
