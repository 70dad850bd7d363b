import java.math.BigInteger;
import java.util.ArrayList;
import java.util.HashSet;
import java.util.List;
import java.util.Random;

/**
 * Long runs of calls, each answer compared with that of a second model that follows the document's
 * words as naively as can be: texts of bits, lists, and places asked one by one for their pass.
 */
public final class FilterRowsModelTest {
  private static final int RUNS = 400;
  private static final int CALLS = 450;

  public static void main(String[] args) {
    for (int run = 0; run < RUNS; run++) {
      compareRun(run);
    }
    Check.end();
  }

  private static void compareRun(int run) {
    Random random = new Random(run);
    // a slip beyond the limits, and the largest sizes, come often enough to matter
    int width = random.nextInt(20) - 1;
    int height = random.nextInt(20) - 1;
    int bits = random.nextInt(7) - 1;
    int channels = random.nextInt(3) == 0 ? 1 : random.nextInt(7) - 1;
    FilterRows real = new FilterRows(width, height, bits, channels);
    Model model = new Model(width, height, bits, channels);
    for (int call = 0; call < CALLS; call++) {
      compareCall(run + "." + call, random, real, model);
    }
  }

  private static int about(Random random, int limit) {
    switch (random.nextInt(40)) {
      case 0: return -1;
      case 1: return limit;
      case 2: return random.nextInt();
      default: return random.nextInt(limit);
    }
  }

  private static void same(String where, Check.Call real, Check.Call model) {
    Check.sameText(where, Check.outcome(real), Check.outcome(model));
  }

  private static void compareCall(String run, Random random, FilterRows real, Model model) {
    int p = about(random, 8);
    int kind = about(random, 5);
    boolean laced = random.nextBoolean();
    int v = random.nextInt();
    switch (random.nextInt(22)) {
      case 0: case 1: {
        int x = about(random, model.width);
        int y = about(random, model.height);
        int c = about(random, model.channels);
        int s = random.nextInt(3) == 0 ? 0 : about(random, 1 << model.bits);
        same(run + " put", () -> real.put(x, y, c, s), () -> model.put(x, y, c, s));
        same(run + " at", () -> real.at(x, y, c), () -> model.at(x, y, c));
        break;
      }
      case 2: {
        int step = random.nextInt(4) == 0 ? random.nextInt() : random.nextInt(7) - 3;
        same(run + " paint", () -> real.paint(v, step), () -> model.paint(v, step));
        break;
      }
      case 3: {
        int what = about(random, 3);
        same(run + " pass", () -> real.pass(p, what), () -> model.pass(p, what));
        break;
      }
      case 4: case 5: case 6: {
        int line = about(random, model.height);
        int i = about(random, Math.max(1, model.width * model.channels * model.bits / 8));
        same(run + " filtered", () -> real.filtered(p, line, kind, i),
            () -> model.filtered(p, line, kind, i));
        break;
      }
      case 7: case 8: {
        int line = about(random, model.height);
        int way = 5 + about(random, 3);
        same(run + " worth", () -> real.worth(p, line, kind, way),
            () -> model.worth(p, line, kind, way));
        break;
      }
      case 9: case 10: {
        int way = about(random, 9);
        same(run + " encode", () -> real.encode(way, v, laced), () -> model.encode(way, v, laced));
        break;
      }
      case 11: case 12: {
        int i = about(random, model.encoded.size() + 1);
        same(run + " byteAt", () -> real.byteAt(i), () -> model.byteAt(i));
        break;
      }
      case 13:
        same(run + " chosen", () -> real.chosen(kind), () -> model.chosen(kind));
        break;
      case 14: {
        int b = random.nextBoolean() ? random.nextInt(5) : about(random, 256);
        same(run + " feed", () -> real.feed(b), () -> model.feed(b));
        break;
      }
      case 15: case 16:
        same(run + " passOn", () -> real.passOn(), () -> model.passOn());
        break;
      case 17: {
        boolean way = random.nextInt(4) == 0 ? laced : model.lacedLast;
        same(run + " decode", () -> real.decode(way), () -> model.decode(way));
        break;
      }
      case 18:
        same(run + " clean", () -> real.clean(), () -> model.clean());
        break;
      case 19: {
        // few values for each part make equal distances
        int rgb = random.nextInt(3) == 0 ? about(random, 1 << 24)
            : 0x010101 * random.nextInt(3) + (1 << 8 * random.nextInt(3)) * random.nextInt(3);
        same(run + " colour", () -> real.colour(rgb), () -> model.colour(rgb));
        break;
      }
      case 20: {
        int place = about(random, model.colours.size() + 1);
        same(run + " order", () -> real.order(place), () -> model.order(place));
        break;
      }
      default: {
        int what = about(random, 9);
        same(run + " told", () -> real.told(what), () -> model.told(what));
        if (random.nextInt(12) == 0) {
          real.clear();
          model.clear();
        }
        break;
      }
    }
  }

  /** What the document says, sentence by sentence. */
  private static final class Model {
    private static final int[][] PASSES = {
      {0, 1, 0, 1}, {0, 8, 0, 8}, {4, 8, 0, 8}, {0, 4, 4, 8}, {2, 4, 0, 4}, {0, 2, 2, 4},
      {1, 2, 0, 2}, {0, 1, 1, 2},
    };

    final int width;
    final int height;
    final int channels;
    final int bits;
    int[][][] samples;
    final List<Integer> encoded = new ArrayList<>();
    final List<Integer> kinds = new ArrayList<>();
    final List<Integer> unread = new ArrayList<>();
    final List<Integer> colours = new ArrayList<>();
    // not of the document: lets the runs read back mostly what can be read
    boolean lacedLast;

    Model(int width, int height, int bits, int channels) {
      this.width = width < 1 ? 1 : width > 16 ? 16 : width;
      this.height = height < 1 ? 1 : height > 16 ? 16 : height;
      this.channels = channels < 1 ? 1 : channels > 4 ? 4 : channels;
      int told = new int[] {1, 2, 4, 8, 16}[bits < 0 ? 0 : bits > 4 ? 4 : bits];
      this.bits = this.channels > 1 && told < 8 ? 8 : told;
      samples = new int[this.height][this.width][this.channels];
    }

    private int step() {
      return bits * channels < 8 ? 1 : bits * channels / 8;
    }

    private void mustBe(boolean there, RuntimeException otherwise) {
      if (!there) {
        throw otherwise;
      }
    }

    private static boolean in(int n, int least, int most) {
      return n >= least && n <= most;
    }

    private boolean there(int x, int y, int c) {
      return in(x, 0, width - 1) && in(y, 0, height - 1) && in(c, 0, channels - 1);
    }

    int put(int x, int y, int c, int v) {
      mustBe(there(x, y, c), new IndexOutOfBoundsException());
      mustBe(in(v, 0, (1 << bits) - 1), new IllegalArgumentException());
      int before = samples[y][x][c];
      samples[y][x][c] = v;
      return before;
    }

    int at(int x, int y, int c) {
      mustBe(there(x, y, c), new IndexOutOfBoundsException());
      return samples[y][x][c];
    }

    int paint(int v, int step) {
      int others = 0;
      BigInteger next = BigInteger.valueOf(v);
      for (int[][] row : samples) {
        for (int[] place : row) {
          for (int c = 0; c < channels; c++) {
            int sample = next.mod(BigInteger.ONE.shiftLeft(bits)).intValue();
            others += place[c] == sample ? 0 : 1;
            place[c] = sample;
            next = next.add(BigInteger.valueOf(step));
          }
        }
      }
      return others;
    }

    /** The rows of a pass, each the columns of its places; none without places. */
    private List<int[]> rowsOf(int pass) {
      int[] p = PASSES[pass];
      List<int[]> found = new ArrayList<>();
      for (int y = 0; y < height; y++) {
        List<Integer> columns = new ArrayList<>();
        for (int x = 0; x < width; x++) {
          boolean column = x >= p[0] && (x - p[0]) % p[1] == 0;
          boolean row = y >= p[2] && (y - p[2]) % p[3] == 0;
          if (column && row) {
            columns.add(x);
          }
        }
        if (!columns.isEmpty()) {
          int[] line = new int[columns.size() + 1];
          line[0] = y;
          for (int i = 0; i < columns.size(); i++) {
            line[i + 1] = columns.get(i);
          }
          found.add(line);
        }
      }
      return found;
    }

    private int bytesOf(int[] row) {
      return (int) Math.ceil((row.length - 1) * channels * bits / 8.0);
    }

    private int[] bytes(int[] row) {
      StringBuilder text = new StringBuilder();
      for (int i = 1; i < row.length; i++) {
        for (int sample : samples[row[0]][row[i]]) {
          String digits = Integer.toBinaryString(sample);
          text.append("0".repeat(bits - digits.length())).append(digits);
        }
      }
      while (text.length() % 8 != 0) {
        text.append('0');
      }
      int[] bytes = new int[text.length() / 8];
      for (int i = 0; i < bytes.length; i++) {
        bytes[i] = Integer.parseInt(text.substring(8 * i, 8 * i + 8), 2);
      }
      return bytes;
    }

    private int guess(int[] line, int[] above, int kind, int i) {
      int a = i < step() ? 0 : line[i - step()];
      int b = above == null ? 0 : above[i];
      int c = above == null || i < step() ? 0 : above[i - step()];
      int nearest = a;
      for (int other : new int[] {b, c}) {
        if (Math.abs(a + b - c - other) < Math.abs(a + b - c - nearest)) {
          nearest = other;
        }
      }
      return new int[] {0, a, b, (int) Math.floor((a + b) / 2.0), nearest}[kind];
    }

    private int[] filteredLine(List<int[]> rows, int line, int kind) {
      int[] bytes = bytes(rows.get(line));
      int[] above = line == 0 ? null : bytes(rows.get(line - 1));
      int[] rests = new int[bytes.length];
      for (int i = 0; i < bytes.length; i++) {
        rests[i] = Math.floorMod(bytes[i] - guess(bytes, above, kind, i), 256);
      }
      return rests;
    }

    int pass(int pass, int what) {
      mustBe(in(pass, 0, 7) && in(what, 0, 2), new IllegalArgumentException());
      List<int[]> rows = rowsOf(pass);
      int each = rows.isEmpty() ? 0 : rows.get(0).length - 1;
      return what == 0 ? rows.size()
          : what == 1 ? (rows.isEmpty() ? 0 : bytesOf(rows.get(0))) : rows.size() * each;
    }

    int filtered(int pass, int line, int kind, int i) {
      mustBe(in(pass, 0, 7) && in(kind, 0, 4), new IllegalArgumentException());
      List<int[]> rows = rowsOf(pass);
      mustBe(in(line, 0, rows.size() - 1), new IndexOutOfBoundsException());
      mustBe(in(i, 0, bytesOf(rows.get(line)) - 1), new IndexOutOfBoundsException());
      return filteredLine(rows, line, kind)[i];
    }

    int worth(int pass, int line, int kind, int way) {
      mustBe(in(pass, 0, 7) && in(kind, 0, 4) && in(way, 5, 7), new IllegalArgumentException());
      List<int[]> rows = rowsOf(pass);
      mustBe(in(line, 0, rows.size() - 1), new IndexOutOfBoundsException());
      int sum = 0;
      int changes = 0;
      int last = 0;
      HashSet<Integer> different = new HashSet<>();
      for (int b : filteredLine(rows, line, kind)) {
        sum += Math.abs((byte) b);
        changes += b == last ? 0 : 1;
        last = b;
        different.add(b);
      }
      return way == 5 ? sum : way == 6 ? changes : different.size();
    }

    int encode(int way, int seed, boolean laced) {
      mustBe(in(way, 0, 8), new IllegalArgumentException());
      encoded.clear();
      kinds.clear();
      lacedLast = laced;
      long turned = seed;
      for (int pass = laced ? 1 : 0; pass <= (laced ? 7 : 0); pass++) {
        List<int[]> rows = rowsOf(pass);
        for (int line = 0; line < rows.size(); line++) {
          turned = (int) (turned * 1103515245L + 12345L);
          int kind = way;
          if (way == 8) {
            kind = (int) ((Math.floorDiv(turned, 65536L) & 32767L) % 5);
          } else if (way > 4) {
            kind = 4;
            for (int other = 3; other >= 0; other--) {
              kind = worth(pass, line, other, way) <= worth(pass, line, kind, way) ? other : kind;
            }
          }
          kinds.add(kind);
          encoded.add(kind);
          for (int b : filteredLine(rows, line, kind)) {
            encoded.add(b);
          }
        }
      }
      return encoded.size();
    }

    int byteAt(int i) {
      mustBe(in(i, 0, encoded.size() - 1), new IndexOutOfBoundsException());
      return encoded.get(i);
    }

    int chosen(int kind) {
      mustBe(in(kind, 0, 4), new IllegalArgumentException());
      return (int) kinds.stream().filter(k -> k == kind).count();
    }

    int feed(int b) {
      mustBe(in(b, 0, 255), new IllegalArgumentException());
      mustBe(unread.size() < 4000, new UnsupportedOperationException());
      unread.add(b);
      return unread.size();
    }

    int passOn() {
      mustBe(unread.size() + encoded.size() <= 4000, new UnsupportedOperationException());
      unread.addAll(encoded);
      return unread.size();
    }

    int decode(boolean laced) {
      int[][][] made = new int[height][width][channels];
      List<Integer> from = new ArrayList<>(unread);
      unread.clear();
      int next = 0;
      int lines = 0;
      for (int pass = laced ? 1 : 0; pass <= (laced ? 7 : 0); pass++) {
        int[] above = null;
        for (int[] row : rowsOf(pass)) {
          int[] line = new int[bytesOf(row)];
          int kind = 0;
          for (int i = -1; i < line.length; i++) {
            if (next == from.size() || i < 0 && from.get(next) > 4) {
              return -1 - next;
            }
            if (i < 0) {
              kind = from.get(next);
            } else {
              line[i] = (from.get(next) + guess(line, above, kind, i)) % 256;
            }
            next++;
          }
          samplesOf(row, line, made);
          above = line;
          lines++;
        }
      }
      if (next < from.size()) {
        return -1 - next;
      }
      samples = made;
      return lines;
    }

    private void samplesOf(int[] row, int[] line, int[][][] made) {
      StringBuilder text = new StringBuilder();
      for (int b : line) {
        text.append(Integer.toBinaryString(256 + b).substring(1));
      }
      int at = 0;
      for (int i = 1; i < row.length; i++) {
        for (int c = 0; c < channels; c++) {
          made[row[0]][row[i]][c] = Integer.parseInt(text.substring(at, at + bits), 2);
          at += bits;
        }
      }
    }

    int clean() {
      mustBe(channels % 2 == 0, new IllegalStateException());
      int others = 0;
      for (int[][] row : samples) {
        for (int[] place : row) {
          for (int c = 0; c < channels - 1 && place[channels - 1] == 0; c++) {
            others += place[c] == 0 ? 0 : 1;
            place[c] = 0;
          }
        }
      }
      return others;
    }

    int colour(int rgb) {
      mustBe(in(rgb, 0, 16777215), new IllegalArgumentException());
      mustBe(colours.size() < 64, new UnsupportedOperationException());
      colours.add(rgb);
      return colours.size() - 1;
    }

    int order(int place) {
      mustBe(in(place, 0, colours.size() - 1), new IndexOutOfBoundsException());
      List<Integer> left = new ArrayList<>();
      for (int number = 0; number < colours.size(); number++) {
        left.add(number);
      }
      Integer last = null;
      for (int i = 0; i <= place; i++) {
        Integer best = left.get(0);
        for (Integer number : left) {
          best = far(number, last) < far(best, last) ? number : best;
        }
        left.remove(best);
        last = best;
      }
      return last;
    }

    private int far(int number, Integer last) {
      int far = 0;
      for (int part = 1; part <= 65536; part *= 256) {
        int one = colours.get(number) / part % 256;
        int other = last == null ? 0 : colours.get(last) / part % 256;
        far += last == null ? one : (one - other) * (one - other);
      }
      return far;
    }

    int told(int what) {
      int[] all = {width, height, bits, channels, step(), encoded.size(), unread.size(),
          colours.size()};
      return in(what, 0, 7) ? all[what] : -1;
    }

    void clear() {
      samples = new int[height][width][channels];
      encoded.clear();
      kinds.clear();
      unread.clear();
      colours.clear();
    }
  }
}
