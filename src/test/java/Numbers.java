import java.util.Random;

/** Places and floats by the machine's own floats, which the class itself does not use. */
final class Numbers {
    static final int LEAST = -2139095040;
    static final int GREATEST = 2139095039;
    static final int NONE = -2139095049;
    static final int BAD = -2139095050;
    static final int NO = -2139095051;
    static final int FULL = -2139095052;

    private Numbers() {
    }

    static int place(float f) {
        int bits = Float.floatToRawIntBits(f);
        return bits >= 0 ? bits : -1 - (bits & 0x7fffffff);
    }

    static float number(int place) {
        return Float.intBitsToFloat(place >= 0 ? place : (-1 - place) | 0x80000000);
    }

    static int sum(int p, int q) {
        return place(number(p) + number(q));
    }

    static int product(int p, int q) {
        return place(number(p) * number(q));
    }

    static int clamp(long place) {
        return (int) Math.max(LEAST, Math.min(GREATEST, place));
    }

    /** A place, more often than not near one where something changes. */
    static int anyPlace(Random random) {
        switch (random.nextInt(6)) {
            case 0:
                return clamp(random.nextInt());
            case 1:
                return clamp(random.nextInt(9) - 4);
            case 2: {
                int m = clamp(((long) random.nextInt(255) << 23) + random.nextInt(7) - 3);
                return random.nextBoolean() ? m : clamp(-1L - m);
            }
            case 3:
                return random.nextBoolean() ? GREATEST - random.nextInt(5) : LEAST + random.nextInt(5);
            case 4:
                return place(random.nextInt(201) - 100);
            default: {
                int m = random.nextInt(1 << (1 + random.nextInt(25)));
                return random.nextBoolean() ? m : -1 - m;
            }
        }
    }

    /** A place of a number of the size of 1, give or take some powers of 2. */
    static int middlePlace(Random random) {
        int m = ((127 - 30 + random.nextInt(61)) << 23) + random.nextInt(1 << 23);
        return random.nextBoolean() ? m : -1 - m;
    }
}
