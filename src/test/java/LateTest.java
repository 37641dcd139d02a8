import java.util.List;
import java.util.Random;

/**
 * Machines that part late, or not at all, held against the model: promises 20 to 23.
 * Machines at random part within a few places, so few of their orbits matter; here one is nearly as the other.
 */
public final class LateTest {
    private static final int NONE = NameRows.NONE, TRIES = 120;

    /**
     * Two machines: next states, kept registers, good states, each in order of state, letter and case.
     * The first two met all orbits but for a few when they part, the last one parts at 40 places.
     */
    private static final String[][] PAIRS = {
        {
            "454044055413511104025552321130304233051240022232554130", "1---01----1-1----0-1--0-----1--0----00-0-----1-0-1-1--", "000000",
            "444034034450552214023103323330300343455545224232112110", "11-01----10-1------1--00----0-001000-0-------10--1-0--", "010000"
        }, {
            "030031520115125115021102141301522432302340502044214455", "-------1-00--0-0--00-1-0-111-10111---0--1-01--1-0---1-", "111011",
            "155033220413321134245502241301522432502240504304212455", "------11--0--0-0---1-000-1-1-11-10--0---1-01--1-0--01-", "111111"
        }, {
            "111111111000333111555111222333444333444444222255111000", "---------------------------------------------------101", "000010",
            "111111111000333111555111222333444333444444222255111000", "----------------------------------------------------01", "000010"
        }
    };

    public static void main(String[] args) {
        for (int i = 0; i < PAIRS.length; i++) {
            Pair pair = new Pair(6, 2);
            pair.tell(PAIRS[i]);
            pair.check("pair " + i);
        }
        Random random = new Random(1);
        for (int i = 0; i < TRIES; i++) {
            Pair pair = new Pair(3 + random.nextInt(4), 2);
            pair.tellNearlyAlike(random);
            pair.check("try " + i);
        }
        Due.end();
    }

    /** Two machines of one size, each as the document's object has it and as the model has it. */
    private static final class Pair {
        private final int states;
        private final NameRows real = new NameRows();
        private final Model.Auto[] autos = new Model.Auto[2];

        Pair(int states, int registers) {
            this.states = states;
            for (int m = 0; m < 2; m++) {
                autos[m] = new Model.Auto(states, registers);
                real.machine(states, registers);
            }
        }

        void tell(String[] told) {
            for (int m = 0; m < 2; m++) {
                for (int at = 0; at < states * 9; at++) {
                    char kept = told[m * 3 + 1].charAt(at);
                    step(m, at, told[m * 3].charAt(at) - '0', kept == '-' ? NONE : kept - '0');
                }
                for (int s = 0; s < states; s++) {
                    good(m, s, told[m * 3 + 2].charAt(s) == '1');
                }
            }
        }

        void tellNearlyAlike(Random random) {
            for (int at = 0; at < states * 9; at++) {
                int to = random.nextInt(3) == 0 ? random.nextInt(states) : (at / 9 + at / 3 % 3) % states;
                int keep = random.nextInt(3) - 1;
                step(0, at, to, keep < 0 ? NONE : keep);
                step(1, at, to, keep < 0 ? NONE : keep);
            }
            good(0, states - 1, true);
            good(1, states - 1, true);
            for (int i = random.nextInt(2); i >= 0; i--) {
                step(1, random.nextInt(states * 9), random.nextInt(states), random.nextInt(2));
            }
        }

        private void step(int m, int at, int to, int keep) {
            real.step(m, at / 9, at / 3 % 3, at % 3, to, keep);
            autos[m].steps.put(List.of(at / 9, at / 3 % 3, at % 3), new Model.Step(to, keep));
        }

        private void good(int m, int s, boolean is) {
            real.good(m, s, is);
            autos[m].good.set(s, is);
        }

        void check(String name) {
            List<Model.Place> least = Model.leastParting(autos[0], autos[1]);
            Due.due(name + ": parts(0, 1)", real.parts(0, 1), least == null ? NONE : least.size());
            Due.due(name + ": count(4)", real.count(4), least == null ? 1 : 2);
            for (int i = 0; least != null && i < least.size(); i++) {
                Due.due(name + ": partsAt(0, 1, " + i + ", 0)", real.partsAt(0, 1, i, 0), least.get(i).letter());
                Due.due(name + ": partsAt(0, 1, " + i + ", 1)", real.partsAt(0, 1, i, 1), least.get(i).name());
            }
            List<Model.Place> back = Model.leastParting(autos[1], autos[0]);
            Due.due(name + ": show(1, 0)", real.show(1, 0), back == null ? NONE : back.size());
            for (int i = 0; back != null && i < back.size(); i++) {
                Due.due(name + ": partsAt(1, 0, " + i + ", 1)", real.partsAt(1, 0, i, 1), back.get(i).name());
            }
            Due.due(name + ": within", real.within(0, 1) == 1 && real.within(1, 0) == 1 ? 1 : 0, least == null ? 1 : 0);
        }
    }
}
