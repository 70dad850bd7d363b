import java.util.Arrays;

/**
 * Rows of a picture's bytes told by what differs from bytes before and above, in five ways, chosen
 * row by row; all rows one behind the other, or in seven passes; read back; what is hidden by alpha
 * cleaned, a palette's colours put in an order in which neighbours are near.
 */
public final class FilterRows {
    public static final int NONE = -1;

    private static final int LAST_PASS = 7;
    private static final int LAST_KIND = 4;
    private static final int WAY_SUM = 5;
    private static final int WAY_CHANGES = 6;
    private static final int WAY_DIFFERENT = 7;
    private static final int WAY_SEED = 8;
    private static final int MOST_TO_READ = 4000;
    private static final int MOST_COLOURS = 64;
    private static final int MOST_RGB = 0xFFFFFF;
    // 16 rows of 16 places of 8 bytes, and a kind for each of the 30 lines of seven passes
    private static final int MOST_ENCODED = 2078;

    private final Picture picture;
    private final Rows rows;
    private final ByteStore encoded;
    private final ByteStore unread;
    private final int[] linesByKind;
    private final Palette palette;

    public FilterRows(int width, int height, int bits, int channels) {
        picture = new Picture(width, height, bits, channels);
        rows = new Rows(picture.lineBytes(0), picture.step);
        encoded = new ByteStore(MOST_ENCODED);
        unread = new ByteStore(MOST_TO_READ);
        linesByKind = new int[LAST_KIND + 1];
        palette = new Palette();
    }

    public int put(int x, int y, int channel, int v)
            throws IndexOutOfBoundsException, IllegalArgumentException {
        if (!picture.hasSample(x, y, channel)) {
            throw new IndexOutOfBoundsException("no such place or channel");
        }
        if (v < 0 || v > picture.mostSample) {
            throw new IllegalArgumentException("no such sample");
        }
        return picture.replaceSample(x, y, channel, v);
    }

    public int paint(int v, int step) {
        return picture.paintAll(v, step);
    }

    public int at(int x, int y, int channel) throws IndexOutOfBoundsException {
        if (!picture.hasSample(x, y, channel)) {
            throw new IndexOutOfBoundsException("no such place or channel");
        }
        return picture.sampleAt(x, y, channel);
    }

    public int pass(int pass, int what) throws IllegalArgumentException {
        if (!isPass(pass) || what < 0 || what > 2) {
            throw new IllegalArgumentException("no such pass or what");
        }
        if (what == 0) {
            return picture.linesOf(pass);
        }
        return what == 1 ? picture.lineBytes(pass) : picture.placesOf(pass);
    }

    public int filtered(int pass, int line, int kind, int i)
            throws IllegalArgumentException, IndexOutOfBoundsException {
        if (!isPass(pass) || !isKind(kind)) {
            throw new IllegalArgumentException("no such pass or kind");
        }
        if (!picture.hasLine(pass, line) || i < 0 || i >= picture.lineBytes(pass)) {
            throw new IndexOutOfBoundsException("no such line or byte");
        }
        rows.takeLine(picture, pass, line);
        rows.filterLine(kind);
        return rows.rests[i];
    }

    public int worth(int pass, int line, int kind, int way)
            throws IllegalArgumentException, IndexOutOfBoundsException {
        if (!isPass(pass) || !isKind(kind) || way < WAY_SUM || way > WAY_DIFFERENT) {
            throw new IllegalArgumentException("no such pass, kind or way");
        }
        if (!picture.hasLine(pass, line)) {
            throw new IndexOutOfBoundsException("no such line");
        }
        rows.takeLine(picture, pass, line);
        return rows.worthOf(kind, way);
    }

    public int encode(int way, int seed, boolean laced) throws IllegalArgumentException {
        if (way < 0 || way > WAY_SEED) {
            throw new IllegalArgumentException("no such way");
        }
        forgetEncoded();
        int turned = seed;
        for (int pass = firstPass(laced); pass <= lastPass(laced); pass++) {
            for (int line = 0; line < picture.linesOf(pass); line++) {
                turned = turned * 1103515245 + 12345;
                rows.takeLine(picture, pass, line);
                int kind = way;
                if (way == WAY_SEED) {
                    kind = ((turned >> 16) & 32767) % (LAST_KIND + 1);
                } else if (way > LAST_KIND) {
                    kind = rows.bestKind(way);
                }
                appendLine(kind);
            }
        }
        return encoded.count;
    }

    public int byteAt(int i) throws IndexOutOfBoundsException {
        if (!encoded.hasByte(i)) {
            throw new IndexOutOfBoundsException("no such byte");
        }
        return encoded.byteOf(i);
    }

    public int chosen(int kind) throws IllegalArgumentException {
        if (!isKind(kind)) {
            throw new IllegalArgumentException("no such kind");
        }
        return linesByKind[kind];
    }

    public int feed(int b) throws IllegalArgumentException, UnsupportedOperationException {
        if (b < 0 || b > 255) {
            throw new IllegalArgumentException("no byte");
        }
        if (!unread.hasRoom(1)) {
            throw new UnsupportedOperationException("too many bytes to be read");
        }
        unread.append(b);
        return unread.count;
    }

    public int passOn() throws UnsupportedOperationException {
        if (!unread.hasRoom(encoded.count)) {
            throw new UnsupportedOperationException("too many bytes to be read");
        }
        for (int i = 0; i < encoded.count; i++) {
            unread.append(encoded.byteOf(i));
        }
        return unread.count;
    }

    public int decode(boolean laced) {
        int answer = readDraft(laced);
        unread.drop();
        if (answer >= 0) {
            picture.takeDraft();
        }
        return answer;
    }

    public int clean() throws IllegalStateException {
        if (!picture.hasAlpha()) {
            throw new IllegalStateException("no alpha channel");
        }
        return picture.cleanHidden();
    }

    public int colour(int rgb) throws IllegalArgumentException, UnsupportedOperationException {
        if (rgb < 0 || rgb > MOST_RGB) {
            throw new IllegalArgumentException("no colour");
        }
        if (palette.count >= MOST_COLOURS) {
            throw new UnsupportedOperationException("too many colours");
        }
        return palette.append(rgb);
    }

    public int order(int place) throws IndexOutOfBoundsException {
        if (place < 0 || place >= palette.count) {
            throw new IndexOutOfBoundsException("no such colour");
        }
        return palette.numberAt(place);
    }

    public int told(int what) {
        switch (what) {
            case 0: return picture.width;
            case 1: return picture.height;
            case 2: return picture.bits;
            case 3: return picture.channels;
            case 4: return picture.step;
            case 5: return encoded.count;
            case 6: return unread.count;
            case 7: return palette.count;
            default: return NONE;
        }
    }

    public void clear() {
        picture.blank();
        forgetEncoded();
        unread.drop();
        palette.drop();
    }

    private static boolean isPass(int pass) {
        return pass >= 0 && pass <= LAST_PASS;
    }

    private static boolean isKind(int kind) {
        return kind >= 0 && kind <= LAST_KIND;
    }

    private static int firstPass(boolean laced) {
        return laced ? 1 : 0;
    }

    private static int lastPass(boolean laced) {
        return laced ? LAST_PASS : 0;
    }

    private void forgetEncoded() {
        encoded.drop();
        Arrays.fill(linesByKind, 0);
    }

    private void appendLine(int kind) {
        if (isKind(kind)) {
            linesByKind[kind]++;
        }
        rows.filterLine(kind);
        encoded.append(kind);
        for (int i = 0; i < rows.length; i++) {
            encoded.append(rows.rests[i]);
        }
    }

    /** How many lines were read into the picture's draft, or NONE less the place of the fault. */
    private int readDraft(boolean laced) {
        int place = 0;
        int lines = 0;
        for (int pass = firstPass(laced); pass <= lastPass(laced); pass++) {
            rows.startPass(picture.lineBytes(pass));
            for (int line = 0; line < picture.linesOf(pass); line++) {
                if (!unread.hasByte(place) || !isKind(unread.byteOf(place))) {
                    return NONE - place;
                }
                if (unread.count - place <= rows.length) {
                    return NONE - unread.count;
                }
                rows.restoreLine(unread, place);
                picture.unpackDraft(pass, line, rows.current);
                place += 1 + rows.length;
                lines++;
            }
        }
        return unread.hasByte(place) ? NONE - place : lines;
    }

    /** The samples, and how the places of each pass lie in them. */
    private static final class Picture {
        private static final int[] FIRST_COLUMN = {0, 0, 4, 0, 2, 0, 1, 0};
        private static final int[] FIRST_ROW = {0, 0, 0, 4, 0, 2, 0, 1};
        // the gaps are powers of two, told by their exponents, so that nothing need be divided
        private static final int[] COLUMN_SHIFT = {0, 3, 3, 2, 2, 1, 1, 0};
        private static final int[] ROW_SHIFT = {0, 3, 3, 3, 2, 2, 1, 1};
        private static final int MOST_SIZE = 16;

        final int width;
        final int height;
        final int bits;
        final int channels;
        final int step;
        final int mostSample;
        private final int[] samples;
        // what is read back waits here until all of it is known to be good
        private final int[] draft;

        Picture(int width, int height, int bits, int channels) {
            this.width = within(width, 1, MOST_SIZE);
            this.height = within(height, 1, MOST_SIZE);
            this.channels = within(channels, 1, 4);
            this.bits = 1 << within(bits, this.channels > 1 ? 3 : 0, 4);
            step = Math.max(1, this.bits * this.channels / 8);
            mostSample = (1 << this.bits) - 1;
            samples = new int[this.width * this.height * this.channels];
            draft = new int[this.width * this.height * this.channels];
        }

        private static int within(int n, int least, int most) {
            return Math.max(least, Math.min(most, n));
        }

        boolean hasSample(int x, int y, int channel) {
            return x >= 0 && x < width && y >= 0 && y < height && channel >= 0 && channel < channels;
        }

        private int indexOf(int x, int y, int channel) {
            return (y * width + x) * channels + channel;
        }

        int sampleAt(int x, int y, int channel) {
            return hasSample(x, y, channel) ? samples[indexOf(x, y, channel)] : 0;
        }

        int replaceSample(int x, int y, int channel, int v) {
            int before = sampleAt(x, y, channel);
            if (hasSample(x, y, channel)) {
                samples[indexOf(x, y, channel)] = v;
            }
            return before;
        }

        int paintAll(int first, int more) {
            int changed = 0;
            int next = first;
            for (int i = 0; i < samples.length; i++) {
                // running over 2^32 does no harm to the rest by 2^bits
                int v = next & mostSample;
                if (samples[i] != v) {
                    changed++;
                }
                samples[i] = v;
                next += more;
            }
            return changed;
        }

        void blank() {
            Arrays.fill(samples, 0);
        }

        boolean hasAlpha() {
            return channels == 2 || channels == 4;
        }

        int cleanHidden() {
            int changed = 0;
            for (int y = 0; y < height; y++) {
                for (int x = 0; x < width; x++) {
                    if (sampleAt(x, y, channels - 1) == 0) {
                        changed += blankPlace(x, y);
                    }
                }
            }
            return changed;
        }

        private int blankPlace(int x, int y) {
            int changed = 0;
            for (int channel = 0; channel < channels; channel++) {
                if (replaceSample(x, y, channel, 0) != 0) {
                    changed++;
                }
            }
            return changed;
        }

        private static int countFrom(int first, int shift, int size) {
            return size <= first ? 0 : ((size - 1 - first) >> shift) + 1;
        }

        private int columnsOf(int pass) {
            return isPass(pass) ? countFrom(FIRST_COLUMN[pass], COLUMN_SHIFT[pass], width) : 0;
        }

        private int rowsOf(int pass) {
            return isPass(pass) ? countFrom(FIRST_ROW[pass], ROW_SHIFT[pass], height) : 0;
        }

        int placesOf(int pass) {
            return columnsOf(pass) * rowsOf(pass);
        }

        int linesOf(int pass) {
            return columnsOf(pass) == 0 ? 0 : rowsOf(pass);
        }

        int lineBytes(int pass) {
            return rowsOf(pass) == 0 ? 0 : (columnsOf(pass) * channels * bits + 7) >> 3;
        }

        boolean hasLine(int pass, int line) {
            return line >= 0 && line < linesOf(pass);
        }

        private int sampleOfLine(int pass, int line, int column) {
            int x = FIRST_COLUMN[pass] + (column << COLUMN_SHIFT[pass]);
            int y = FIRST_ROW[pass] + (line << ROW_SHIFT[pass]);
            return indexOf(x, y, 0);
        }

        /** Writes a line's bytes into the row; a line that is not there has zeros. */
        void packLine(int pass, int line, int[] row) {
            Arrays.fill(row, 0);
            if (!hasLine(pass, line) || row.length < lineBytes(pass)) {
                return;
            }
            int columns = columnsOf(pass);
            int bit = 0;
            for (int column = 0; column < columns; column++) {
                int from = sampleOfLine(pass, line, column);
                for (int channel = 0; channel < channels; channel++) {
                    packSample(row, bit, samples[from + channel]);
                    bit += bits;
                }
            }
        }

        void unpackDraft(int pass, int line, int[] row) {
            if (!hasLine(pass, line) || row.length < lineBytes(pass)) {
                return;
            }
            int columns = columnsOf(pass);
            int bit = 0;
            for (int column = 0; column < columns; column++) {
                int to = sampleOfLine(pass, line, column);
                for (int channel = 0; channel < channels; channel++) {
                    draft[to + channel] = unpackSample(row, bit);
                    bit += bits;
                }
            }
        }

        void takeDraft() {
            System.arraycopy(draft, 0, samples, 0, samples.length);
        }

        private void packSample(int[] row, int bit, int v) {
            int i = bit >> 3;
            if (bits > 8) {
                row[i] = v >> 8;
                row[i + 1] = v & 255;
            } else {
                row[i] |= v << (8 - bits - (bit & 7));
            }
        }

        private int unpackSample(int[] row, int bit) {
            int i = bit >> 3;
            if (bits > 8) {
                return row[i] << 8 | row[i + 1];
            }
            return row[i] >> (8 - bits - (bit & 7)) & mostSample;
        }
    }

    /** The line at work and the one above it, and what its bytes are when filtered. */
    private static final class Rows {
        private final int step;
        // a byte was seen if the number of the present count stands here: nothing need be wiped
        private final int[] seen = new int[256];
        private int counts;
        final int[] rests;
        int[] current;
        private int[] above;
        int length;

        Rows(int most, int step) {
            this.step = step;
            rests = new int[Math.max(0, most)];
            current = new int[rests.length];
            above = new int[rests.length];
        }

        void takeLine(Picture picture, int pass, int line) {
            length = Math.min(rests.length, picture.lineBytes(pass));
            picture.packLine(pass, line, current);
            picture.packLine(pass, line - 1, above);
        }

        void startPass(int bytes) {
            length = Math.min(rests.length, bytes);
            Arrays.fill(current, 0);
        }

        /** The next line of the pass, from its kind and filtered bytes at a place on. */
        void restoreLine(ByteStore from, int place) {
            int[] done = current;
            current = above;
            above = done;
            int kind = from.byteOf(place);
            for (int i = 0; i < length; i++) {
                current[i] = (from.byteOf(place + 1 + i) + guess(kind, i)) & 255;
            }
        }

        void filterLine(int kind) {
            for (int i = 0; i < length; i++) {
                rests[i] = (current[i] - guess(kind, i)) & 255;
            }
        }

        int bestKind(int way) {
            int best = 0;
            int least = worthOf(0, way);
            for (int kind = 1; kind <= LAST_KIND; kind++) {
                int counted = worthOf(kind, way);
                if (counted < least) {
                    least = counted;
                    best = kind;
                }
            }
            return best;
        }

        int worthOf(int kind, int way) {
            filterLine(kind);
            if (way == WAY_SUM) {
                return sumOfRests();
            }
            return way == WAY_CHANGES ? changesOfRests() : differentRests();
        }

        private int sumOfRests() {
            int sum = 0;
            for (int i = 0; i < length; i++) {
                int b = rests[i];
                sum += b < 128 ? b : 256 - b;
            }
            return sum;
        }

        private int changesOfRests() {
            int changes = 0;
            int before = 0;
            for (int i = 0; i < length; i++) {
                if (rests[i] != before) {
                    changes++;
                }
                before = rests[i];
            }
            return changes;
        }

        private int differentRests() {
            counts++;
            int different = 0;
            for (int i = 0; i < length; i++) {
                int b = rests[i] & 255;
                if (seen[b] != counts) {
                    different++;
                }
                seen[b] = counts;
            }
            return different;
        }

        private int guess(int kind, int i) {
            int a = byteOr0(current, i - step);
            int b = byteOr0(above, i);
            switch (kind) {
                case 1: return a;
                case 2: return b;
                case 3: return (a + b) >> 1;
                case 4: return nearest(a, b, byteOr0(above, i - step));
                default: return 0;
            }
        }

        private static int nearest(int a, int b, int c) {
            int aim = a + b - c;
            int fromA = Math.abs(aim - a);
            int fromB = Math.abs(aim - b);
            int fromC = Math.abs(aim - c);
            if (fromA <= fromB && fromA <= fromC) {
                return a;
            }
            return fromB <= fromC ? b : c;
        }

        private static int byteOr0(int[] row, int i) {
            return i >= 0 && i < row.length ? row[i] : 0;
        }
    }

    /** Bytes one behind the other, up to a limit. */
    private static final class ByteStore {
        private final int[] held;
        int count;

        ByteStore(int most) {
            held = new int[Math.max(0, most)];
        }

        boolean hasRoom(int more) {
            return more <= held.length - count;
        }

        boolean hasByte(int i) {
            return i >= 0 && i < count;
        }

        int byteOf(int i) {
            return hasByte(i) ? held[i] : 0;
        }

        void append(int b) {
            if (count < held.length) {
                held[count] = b;
                count++;
            }
        }

        void drop() {
            count = 0;
        }
    }

    /** Colours by their numbers, and their order as far as it has been asked for. */
    private static final class Palette {
        private static final int BEYOND_ALL = 3 * 255 * 255 + 1;

        private final int[] colours = new int[MOST_COLOURS];
        private final int[] numbers = new int[MOST_COLOURS];
        private final boolean[] placed = new boolean[MOST_COLOURS];
        int count;
        private int arranged;

        int append(int rgb) {
            if (count < colours.length) {
                colours[count] = rgb;
                count++;
            }
            forgetOrder();
            return count - 1;
        }

        void drop() {
            count = 0;
            forgetOrder();
        }

        int numberAt(int place) {
            if (place < 0 || place >= count) {
                return NONE;
            }
            for (int next = arranged; next <= place; next++) {
                int number = nextNumber(next);
                numbers[next] = number;
                placed[number] = true;
                arranged = next + 1;
            }
            return numbers[place];
        }

        private void forgetOrder() {
            arranged = 0;
            for (int number = 0; number < placed.length; number++) {
                placed[number] = false;
            }
        }

        private int nextNumber(int place) {
            int best = 0;
            int least = BEYOND_ALL;
            for (int number = 0; number < count; number++) {
                int far = placed[number] ? BEYOND_ALL : farness(number, place);
                if (far < least) {
                    least = far;
                    best = number;
                }
            }
            return best;
        }

        private int farness(int number, int place) {
            if (place == 0) {
                return sumOfParts(colours[number]);
            }
            return distance(colours[number], colours[numbers[place - 1]]);
        }

        private static int sumOfParts(int rgb) {
            return (rgb >> 16) + (rgb >> 8 & 255) + (rgb & 255);
        }

        private static int distance(int one, int other) {
            int red = (one >> 16) - (other >> 16);
            int green = (one >> 8 & 255) - (other >> 8 & 255);
            int blue = (one & 255) - (other & 255);
            return red * red + green * green + blue * blue;
        }
    }
}
