import java.util.Random;

/** Laws by chance: what a PIPE carries and costs by them is what the oracle works out. */
public final class LawValuesTest {
    private static final String TOWN = "corner a 40 3 rock 1;corner b 31 2;corner c 20 1;street a b 3;street b c 4;pipe 7 2;pipe 12 3;rain z 5 9;";

    private LawValuesTest() { }

    public static void main(String[] args) throws Oracle.Fault {
        Checks checks = new Checks();
        Random random = new Random(args.length > 0 ? Long.parseLong(args[0]) : 17);
        int compared = 0;
        int unlike = 0;
        for (int i = 0; i < 60000 && checks.isClean(); i++) {
            String[] laws = {TextFaultsTest.formula(random, random.nextInt(5)), TextFaultsTest.formula(random, random.nextInt(4)),
                TextFaultsTest.formula(random, random.nextInt(4))};
            String text = TOWN + "law carry " + laws[0] + ";law dig " + laws[1] + ";law pump " + laws[2] + ";";
            RiverDrains x = new RiverDrains();
            if (Checks.tell(x, text) < 0) {
                continue;
            }
            compared++;
            Oracle due = new Oracle(text);
            Oracle.Laid[] net = {new Oracle.Laid(0, 0, random.nextInt(13), random.nextInt(13)),
                new Oracle.Laid(1, 1, random.nextInt(13), random.nextInt(13)), null};
            for (int corner = 0; corner < 2; corner++) {
                x.lay(corner, net[corner].street(), net[corner].width(), net[corner].a(), net[corner].b());
            }
            for (int corner = 0; corner < 2; corner++) {
                checks.due("carries " + corner + " of [" + text + "]", x.carries(corner), due.carries(net, corner));
                checks.due("cost " + corner + " of [" + text + "]", x.cost(corner, 0), due.pipeCost(net, corner));
                checks.due("pump " + corner + " of [" + text + "]", x.cost(corner, 1), due.pumpCost(net, corner));
                unlike += due.carries(net, corner) > 1 ? 1 : 0;
            }
        }
        System.out.println(compared + " texts, " + unlike + " pipes that carry more than 1");
        checks.due("enough texts", compared > 10000, true);
        checks.due("enough values", unlike > 3000, true);
        checks.end();
    }
}
