import java.lang.management.ManagementFactory;

/** The greatest net and 120 dear calls: they make nothing that stays or goes, all rows being made with the object. */
public final class RoomTest {
    private static final int[] X = {97, 89, 83, 79, 73, 71, 67, 61, 59, 53, 98, 99, 95, 94, 92, 91, 86, 85, 87, 82};

    private RoomTest() {
    }

    private static String net() {
        StringBuilder t = new StringBuilder();
        for (int i = 0; i < 16; i++) {
            t.append("bar b").append(i).append(";");
        }
        for (int i = 0; i < 24; i++) {
            t.append("switch s").append(i).append(" b").append(i % 16).append(" b").append((i + 3) % 16).append(" open 5;");
        }
        for (int i = 0; i < 20; i++) {
            int a = i % 16;
            int b = (i < 15 ? i + 1 : a + 5) % 16;
            t.append("line l").append(i).append(" b").append(a).append(" b").append(b).append(" ").append(X[i]).append(" ")
                    .append(3 * X[i] + 1).append(" ").append(90 + i).append(";");
        }
        for (int i = 0; i < 6; i++) {
            t.append("machine m").append(i).append(" b").append(3 * i).append(" 97 299 0 999 ").append(3 + i)
                    .append(" 50 30 5;");
        }
        for (int i = 0; i < 12; i++) {
            t.append("load p").append(i).append(" b").append(15 - i).append(" ").append(37 + i).append(";");
        }
        return t.toString();
    }

    private static long allocated() {
        return ((com.sun.management.ThreadMXBean) ManagementFactory.getThreadMXBean()).getCurrentThreadAllocatedBytes();
    }

    private static int dear(GridHouse x, int i) {
        switch (i % 12) {
            case 0:
                x.set(2, i % 20, 3, 9000 + i);
                return x.screen();
            case 1:
                return x.trouble(0, 3);
            case 2:
                return x.restore(3);
            case 3:
                x.strike(i % 32, i % 5 == 0);
                return x.worst();
            case 4:
                return x.rest(i % 32, 0);
            case 5:
                x.shortOn(3, i % 20, 1 + i % 15, i % 100);
                return x.current(i % 20, i % 2, 4) + x.figures(0) + x.figure(1, 0);
            case 6:
                return x.begin();
            case 7:
                return x.run(1000000 + i);
            case 8:
                return x.dispatch();
            case 9:
                return x.price(i % 16) + x.figures(0);
            case 10:
                return x.barred(0) + x.carry();
            default:
                x.keep(0);
                x.back(0);
                return x.voltage(i % 16, 3) + x.figures(1);
        }
    }

    private static GridHouse house() {
        GridHouse x = new GridHouse();
        Check.net(x, net());
        Check.rules(x, "no close if then over above 3 or then lost above 999 and loops is 99;");
        Check.order(x, "tag s3;close s1;open s1;close s2;open s2;earth b1;");
        for (int i = 0; i < 32; i++) {
            x.meter(i % 3, i % 16, i * 3001 % 9999, 99 - i);
        }
        for (int i = 0; i < 16; i++) {
            x.relay(i, 0, i, i % 2);
            for (int j = 0; j < (i % 5 == 0 ? 4 : 1); j++) {
                x.row(i, 3 * j, j);
            }
        }
        for (int i = 0; i < 20; i++) {
            x.set(2, i, 3, 9999);
        }
        return x;
    }

    public static void main(String[] args) {
        allocated();
        long before = allocated();
        GridHouse x = new GridHouse();
        long made = allocated() - before;
        x = house();
        dear(x, 5);
        long sum = 0;
        before = allocated();
        for (int i = 0; i < 120; i++) {
            sum += i % 12 == 1 ? 0 : dear(x, i);
        }
        long behind = allocated() - before;
        System.out.println("an object has " + made + " bytes, 120 dear calls made " + behind + " (" + sum + ")");
        // the room of a run has 7.3 million fields and elements; this program makes nothing in its calls
        boolean isLean = Check.isBuiltWith("Solver");
        if (made + behind > 50000000 || isLean && (made > 1000000 || behind > 4000)) {
            System.exit(1);
        }
    }
}
