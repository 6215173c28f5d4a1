/**
 * All that an object can be asked, a line for each part of it. Asking for all uses the object up:
 * what was seen is forgotten, images are gone back to, the tape is read, the sheets bind new children.
 */
final class Snapshot {
    private final SeasonBound x;
    private final StringBuilder row = new StringBuilder();

    private Snapshot(SeasonBound x) {
        this.x = x;
    }

    static String of(SeasonBound x) {
        return "fault " + x.fault() + "\n" + ofAllButFault(x);
    }

    static String ofAllButFault(SeasonBound x) {
        Snapshot s = new Snapshot(x);
        s.counts();
        s.people("now");
        s.seen();
        s.images();
        s.tape();
        s.sheets();
        return s.row.toString();
    }

    /** The first line in which two of them differ. */
    static String difference(String one, String other) {
        String[] a = one.split("\n");
        String[] b = other.split("\n");
        for (int i = 0; i < Math.min(a.length, b.length); i++) {
            if (!a[i].equals(b[i])) {
                return a[i] + " / " + b[i];
            }
        }
        return a.length + " lines / " + b.length + " lines";
    }

    private void part(String name) {
        row.append(name);
    }

    private void told(int answer) {
        row.append(' ').append(answer);
    }

    private void close() {
        row.append('\n');
    }

    private void counts() {
        part("counts");
        for (int what = 0; what < 6; what++) {
            told(x.count(what));
        }
        part(", torn");
        told(x.torn());
        close();
    }

    private void people(String when) {
        part("rules " + when);
        for (int what = 0; what < 6; what++) {
            told(x.rule(what));
        }
        close();
        part("children " + when);
        for (int c = 0; c < x.rule(0); c++) {
            for (int what = 0; what < 6; what++) {
                told(x.child(c, what));
            }
            part(",");
        }
        close();
        part("seasons " + when);
        for (int s = 0; s < 4; s++) {
            for (int what = 0; what < 4; what++) {
                told(x.season(s, what));
            }
        }
        close();
    }

    private void seen() {
        for (int n = x.count(0); n >= 0; n--) {
            part("the first " + n + " seen");
            told(x.forget(n));
            for (int c = 0; c < x.rule(0); c++) {
                told(x.kinds(c));
                told(x.seasons(c));
            }
            for (int s = 0; s < 4; s++) {
                told(x.gifts(s));
            }
            close();
        }
    }

    private void images() {
        for (int k = 0; k < 2; k++) {
            part("image " + k);
            int week = x.back(k);
            told(week);
            told(x.count(0));
            close();
            if (week >= 0) {
                people("of image " + k);
            }
        }
    }

    private void tape() {
        part("text");
        told(x.text());
        told(x.fault());
        close();
        people("by the text");
    }

    private void sheets() {
        x.end(0);
        x.text();
        for (int c = 0; c < 5; c++) {
            x.born(0);
        }
        for (int k = 0; k < 4; k++) {
            for (int lane = 0; lane < 3; lane++) {
                part("sheet " + k + " as of lane " + lane);
                int came = x.read(k, lane, 0, 13);
                told(came);
                told(x.torn());
                if (came > 0) {
                    bindings();
                }
                close();
            }
        }
    }

    private void bindings() {
        for (int c = 0; c < 5; c++) {
            told(x.child(c, 1));
            told(x.free(c));
        }
    }
}
