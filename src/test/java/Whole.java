import java.util.ArrayList;
import java.util.List;

/** All that calls can see of an object, in parts: each part is small enough for an object's 512 calls. */
final class Whole {
    static final int PARTS = 4, MOST_CALLS = 190;

    private final HalfASize x;
    private final List<Long> seen = new ArrayList<>();

    private Whole(HalfASize x) {
        this.x = x;
    }

    static List<Long> seen(HalfASize x, int part) {
        Whole whole = new Whole(x);
        switch (part) {
            case 0: whole.feetAndMakes(); break;
            case 1: whole.sheets(); break;
            case 2: whole.texts(); break;
            default:
                whole.see(x.back());
                whole.feetAndMakes();
                break;
        }
        if (whole.seen.size() > MOST_CALLS) {
            throw new IllegalStateException("too many calls: " + whole.seen.size());
        }
        return whole.seen;
    }

    private long see(long answer) {
        seen.add(answer);
        return answer;
    }

    private void feetAndMakes() {
        for (int what : new int[] {0, 1, 2, 8, 9}) {
            see(x.told(0, what));
        }
        for (int what = 0; what < 6; what++) {
            see(x.count(what));
        }
        for (int make = 0; make < 5; make++) {
            for (int what = 4; what < 8; what++) {
                see(x.told(make, what));
            }
        }
        town();
    }

    private void town() {
        for (int foot = 0; foot < 100; foot++) {
            see(x.told(foot, 3));
        }
    }

    private void sheets() {
        for (int sheet = 0; sheet < 4; sheet++) {
            int sort = -1;
            for (int s = 0; s < 3; s++) {
                sort = see(x.town(sheet, s, 0, 0)) == 0 ? s : sort;
            }
            int size = sizeOf(sheet);
            for (int what = 0; what < 3; what++) {
                see(x.canBe(sheet, what));
            }
            see(x.runs(sheet, 0, 40, 0));
            see(x.runs(sheet, 0, 40, 1));
            see(x.town(sheet, sort, 0, size / 2));
            see(x.town(sheet, sort, 1, Math.max(0, size - 1) / 2));
        }
        town();
    }

    /** A copy of a sheet's first numbers onto themselves changes nothing and tells how many there are. */
    private int sizeOf(int sheet) {
        int size = 0;
        for (int step = 32; step > 0; step /= 2) {
            size += see(x.copy(sheet, 0, sheet, 0, size + step)) == size + step ? step : 0;
        }
        return size;
    }

    private void texts() {
        int held = x.count(3);
        see(held);
        see(x.count(4));
        see(x.count(5));
        // Rubs and prices show by shoes and unlike feet alone.
        x.make(0, 9, 0);
        x.set(6, 0, 1 << 7 | 1 << 9);
        x.set(0, 0, 30);
        x.set(1, 0, 50);
        for (int text = 0; text < held; text++) {
            tells(text);
        }
        long text = see(x.text());
        if (text > 0) {
            tells((int) text);
        }
    }

    private void tells(int text) {
        see(x.force(text));
        see(x.told(0, 8));
        see(x.told(0, 9));
        for (int what = 0; what < 6; what++) {
            see(x.pair(what));
        }
    }
}
