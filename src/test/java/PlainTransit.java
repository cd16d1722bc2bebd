import java.util.ArrayList;
import java.util.List;

/**
 * The document said a second time, in the plainest way: day by day, with lists, and with each
 * answer worked out from what was told. The random runs hold TransitSteps against it.
 */
final class PlainTransit {
    /** What a call answers when it throws: numbers that no call answers otherwise. */
    static final long ARGUMENT = 1L << 40;
    static final long STATE = 2L << 40;
    static final long INDEX = 3L << 40;

    private static final class Trip {
        int from;
        int to;
        int limit;
        int seal;
        int pieces;
        int amount;
        Integer where;
        int sealThere;
        int dayThere;
        Integer foundThere;
        String state = "ON THE WAY";
        int accounted;
        int recovered;
        int enquiries;
        Integer seal1;
        Integer late1;
        Integer found1;

        boolean ended() {
            return state.equals("RECOVERED") || state.equals("DISCHARGED");
        }

        boolean awaited() {
            return state.equals("ON THE WAY") || state.equals("ENQUIRED");
        }
    }

    private static final List<String> STATES =
            List.of("", "ON THE WAY", "ARRIVED", "DIFFERS", "ENQUIRED", "RECOVERED", "DISCHARGED");

    private final int n;
    private final List<Trip> trips = new ArrayList<>();
    private final List<int[]> mail = new ArrayList<>();
    private int now;

    PlainTransit(int offices) {
        n = offices < 2 || offices > 8 ? 4 : offices;
    }

    private boolean trip(int m) {
        return 0 <= m && m < trips.size();
    }

    private boolean place(int office) {
        return 0 <= office && office < n;
    }

    private void post(int kind, int m, int sender, int receiver, int a, int b) {
        mail.add(new int[] {kind, m, sender, receiver, a, b, 0});
    }

    long movement(int from, int to, int limit, int seal, int pieces, int amount) {
        boolean good = place(from) && place(to) && from != to && now <= limit && limit <= 10000
                && 1 <= seal && seal <= 1000000000 && 1 <= pieces && pieces <= 1000 && 0 <= amount && amount <= 1000000;
        if (!good) {
            return ARGUMENT;
        }
        if (trips.size() == 20) {
            return STATE;
        }
        Trip t = new Trip();
        t.from = from;
        t.to = to;
        t.limit = limit;
        t.seal = seal;
        t.pieces = pieces;
        t.amount = amount;
        trips.add(t);
        post(1, trips.size() - 1, from, to, pieces, limit);
        return trips.size() - 1;
    }

    long arrive(int m, int office, int seal) {
        if (!trip(m) || !place(office) || seal < 0 || seal > 1000000000) {
            return ARGUMENT;
        }
        Trip t = trips.get(m);
        if (t.where != null || office == t.from || t.state.equals("DISCHARGED")) {
            return 0;
        }
        t.where = office;
        t.sealThere = seal;
        t.dayThere = now;
        post(2, m, office, t.from, seal, now > t.limit ? 1 : 0);
        if (office != t.to) {
            post(6, m, office, t.to, office, 0);
        }
        return 1;
    }

    long control(int m, int found) {
        if (!trip(m) || found < 0 || found > 1000) {
            return ARGUMENT;
        }
        Trip t = trips.get(m);
        if (t.where == null || t.foundThere != null) {
            return 0;
        }
        t.foundThere = found;
        post(3, m, t.where, t.from, found, t.sealThere);
        return 1;
    }

    private boolean told(int m, int kind) {
        return mail.stream().anyMatch(one -> one[0] == kind && one[1] == m && one[6] == 1);
    }

    long receive(int office, int i) {
        if (!place(office) || i < 0 || i >= mail.size()) {
            return ARGUMENT;
        }
        int[] one = mail.get(i);
        if (one[6] != 0 || one[3] != office) {
            return 0;
        }
        one[6] = 1;
        Trip t = trips.get(one[1]);
        if (one[0] == 2) {
            t.seal1 = one[4];
            t.late1 = one[5];
            if (t.awaited()) {
                t.state = "ARRIVED";
            }
        } else if (one[0] == 3) {
            t.found1 = one[4];
            t.seal1 = one[5];
            if (!t.ended()) {
                int counted = one[4] > t.pieces ? t.pieces : one[4];
                t.accounted = t.accounted > counted ? t.accounted : counted;
                t.state = one[5] == t.seal && one[4] == t.pieces ? "DISCHARGED" : "DIFFERS";
            }
        } else if (one[0] == 4) {
            boolean here = t.where != null && t.where == t.to;
            if (here && t.foundThere != null) {
                post(3, one[1], t.to, t.from, t.foundThere, t.sealThere);
            } else if (here) {
                post(2, one[1], t.to, t.from, t.sealThere, t.dayThere > t.limit ? 1 : 0);
            } else {
                post(5, one[1], t.to, t.from, told(one[1], 1) ? 1 : 0, told(one[1], 6) ? 1 : 0);
            }
        }
        return 1;
    }

    long lose(int i) {
        if (i < 0 || i >= mail.size() || mail.get(i)[6] != 0) {
            return 0;
        }
        mail.get(i)[6] = 2;
        return 1;
    }

    long tick(int day) {
        if (day < now || day > 10000) {
            return ARGUMENT;
        }
        int sent = 0;
        while (now < day) {
            now++;
            for (int m = 0; m < trips.size(); m++) {
                Trip t = trips.get(m);
                int behind = now - t.limit;
                if (t.awaited() && (behind == 10 || behind == 15 || behind == 20)) {
                    t.state = "ENQUIRED";
                    t.enquiries++;
                    post(4, m, t.from, t.to, behind / 5 - 1, 0);
                    sent++;
                }
                if (!t.ended() && behind == 40) {
                    t.state = "RECOVERED";
                    t.recovered = (int) Math.ceil((double) t.amount * (t.pieces - t.accounted) / t.pieces);
                }
            }
        }
        return sent;
    }

    long discharge(int m, int pieces) {
        if (!trip(m) || pieces < 1) {
            return ARGUMENT;
        }
        Trip t = trips.get(m);
        if (!t.state.equals("DIFFERS") || t.pieces - t.accounted < pieces) {
            return -1;
        }
        t.accounted += pieces;
        if (t.accounted == t.pieces) {
            t.state = "DISCHARGED";
        }
        return t.pieces - t.accounted;
    }

    long proof(int m) {
        if (!trip(m)) {
            return ARGUMENT;
        }
        Trip t = trips.get(m);
        if (t.state.equals("DISCHARGED") || t.state.equals("RECOVERED") && now - t.limit > 70) {
            return 0;
        }
        long answer = t.state.equals("RECOVERED") ? 2 : 1;
        t.state = "DISCHARGED";
        t.recovered = 0;
        return answer;
    }

    long state(int m, int what) {
        if (!trip(m) || what < 0 || what > 8) {
            return INDEX;
        }
        Trip t = trips.get(m);
        Integer[] all = {
            STATES.indexOf(t.state), t.accounted, t.recovered, t.enquiries, t.seal1, t.late1, t.found1,
            t.found1 == null ? null : Integer.valueOf(t.pieces - t.found1), t.seal1 != null && t.seal1 != t.seal ? 1 : 0,
        };
        return all[what] == null ? -1 : all[what];
    }

    long office(int m, int office) {
        if (!trip(m) || !place(office)) {
            return INDEX;
        }
        Trip t = trips.get(m);
        int bits = office == t.from ? 1 : 0;
        if (office == t.to) {
            bits |= (told(m, 1) ? 2 : 0) | (told(m, 6) ? 4 : 0);
        }
        if (t.where != null && t.where == office) {
            bits |= t.foundThere != null ? 24 : 8;
        }
        return bits;
    }

    long message(int i, int what) {
        return i < 0 || i >= mail.size() || what < 0 || what > 6 ? INDEX : mail.get(i)[what];
    }

    long count(int what) {
        switch (what) {
            case 0: return n;
            case 1: return trips.size();
            case 2: return mail.size();
            case 3: return now;
            case 4: return trips.stream().filter(t -> !t.ended()).mapToInt(t -> t.amount).sum();
            case 5: return trips.stream().mapToInt(t -> t.recovered).sum();
            case 6: return trips.stream().filter(Trip::ended).count();
            case 7: return mail.stream().filter(one -> one[6] == 0).count();
            default: return -1;
        }
    }
}
